/-! the whole -/
section
variable {N z : Nat} {Y : bk_Lay} {V : bk_Val}
theorem bk_stepP (hN : 20000 ≤ N) (h : pk_IA z Y V) (op : Nat) (x1 x2 x3 x4 x5 : Int32) : bk_step N z (z + 58) (z + 86) Y V op x1 x2 x3 x4 x5 (pk_IA z) :=
  ⟨fun _ => st_0 (by omega) h, fun _ => st_1 (by omega) h, fun _ => st_2 h, fun _ => st_3 h, fun _ => st_4 h, fun _ => st_5 (by omega) h, fun _ => st_6 (by omega) h, fun _ => st_7 (by omega) h, fun _ => st_8 (by omega) h, fun _ => st_9 (by omega) h, fun _ => st_10 (by omega) h, fun _ => st_11 (by omega) h, fun _ => st_12 (by omega) h, fun _ => st_13 (by omega) h, fun _ => st_14 (by omega) h, fun _ => st_15 (by omega) h, fun _ => st_16 (by omega) h, fun _ => st_17 (by omega) h, fun _ => st_18 (by omega) h, fun _ => st_19 (by omega) h, fun _ => st_20 (by omega) h, fun _ => st_21 (by omega) h, fun _ => st_22 (by omega) h, fun _ => st_23 (by omega) h, fun _ => st_24 (by omega) h, fun _ => st_25 (by omega) h, fun _ => st_26 (by omega) h, fun _ => st_27 (by omega) h, fun _ => st_28 (by omega) h, fun _ => st_29 (by omega) h, fun _ => st_30 (by omega) h, fun _ => st_31 (by omega) h, fun _ => st_32 (by omega) h, fun _ => st_33 (by omega) h, fun _ => st_34 (by omega) h, fun _ => st_35 (by omega) h, fun _ => st_36 (by omega) h, fun _ => st_37 (by omega) h, fun _ => st_38 (by omega) h, fun _ => st_39 (by omega) h, fun _ => st_40 (by omega) h, fun _ => st_41 (by omega) h, fun _ => st_42 (by omega) h, fun _ => st_43 (by omega) h, fun _ => h⟩
theorem bk_goalN (N : Nat) (hN : 20000 ≤ N) : ∀ z : Nat, ∃ (a1 a2 a3 : Nat) (I : bk_Lay → bk_Val → Prop), bk_init N z a1 a2 a3 I ∧ ∀ Y V, I Y V → bk_sh Y a1 = (1, 10) ∧ ∀ (op : Nat) (x1 x2 x3 x4 x5 : Int32), bk_step N a1 a2 a3 Y V op x1 x2 x3 x4 x5 I := fun z => ⟨z, z + 58, z + 86, pk_IA z, bk_initP hN, fun Y V h => ⟨by
  obtain ⟨A, ⟨t, u, s, hJ⟩, -⟩ := h
  exact hJ.1.mn.1, fun op x1 x2 x3 x4 x5 => bk_stepP hN h op x1 x2 x3 x4 x5⟩⟩
theorem bk_goalP : bk_goal := ⟨20000, bk_goalN 20000 (Nat.le_refl _)⟩
end
