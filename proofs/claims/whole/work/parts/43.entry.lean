/-! the law's entry: two objects and an array are made; then the loop -/
def bk_Y0 (z : Nat) : bk_Lay := (fun _ => (0, 0), fun _ _ => none, z)
def bk_V0 : bk_Val := (fun _ _ => 0, fun _ _ => 0)
def bk_init (N z a1 a2 a3 : Nat) (I : bk_Lay → bk_Val → Prop) : Prop :=
  a1 = z ∧ ∃ Y1 V1, q_X11_init N (bk_nw (bk_Y0 z) (1, 10)) (bk_nz (bk_Y0 z) bk_V0) a1 = some (Y1, V1) ∧ a2 = bk_sz Y1 ∧ ∃ Y2 V2, q_X12_init N (bk_nw Y1 (1, 11)) (bk_nz Y1 V1) a2 = some (Y2, V2) ∧ a3 = bk_sz Y2 ∧ I (bk_nw Y2 (3, 1)) (bk_nz Y2 V2)
/-- what is left to show, of the programs alone -/
def bk_goal : Prop := ∃ N : Nat, ∀ z : Nat, ∃ (a1 a2 a3 : Nat) (I : bk_Lay → bk_Val → Prop), bk_init N z a1 a2 a3 I ∧ ∀ Y V, I Y V → bk_sh Y a1 = (1, 10) ∧ ∀ (op : Nat) (x1 x2 x3 x4 x5 : Int32), bk_step N a1 a2 a3 Y V op x1 x2 x3 x4 x5 I
section
variable {p : Program} {l : Launch} {e : Env} {s : State} {m : MethodId} {args : Array Value} {below : List Frame} {meth : Method} {c : Code} {H : Heap} {locs : List Loc} {cells slots : Nat} {Q : State → Prop} {ls : Array Slot}
variable {G : bk_G} {Y : bk_Lay} {V : bk_Val} {b L j N a1 a2 a3 : Nat} {xs : Nat → Int32} {I : bk_Lay → bk_Val → Prop}
set_option maxRecDepth 100000 in
set_option maxHeartbeats 4000000 in
theorem bk_entry (C : bk_C G p s m args meth c cL_law RL 8 (some FieldType.boolean)) (hst : l.stackTraces = false) (hX : va_X b L xs s s.heap) (hbl : b < s.heap.size) (hz : G.2.2.1 = s.heap.size) (hL : L ≤ 3072) (hl : lv_has ls 8 [(0, .ref b)])
    (hi : bk_init N s.heap.size a1 a2 a3 I) (hI : ∀ Y V, I Y V → bk_sh Y a1 = (1, 10) ∧ ∀ (op : Nat) (x1 x2 x3 x4 x5 : Int32), bk_step N a1 a2 a3 Y V op x1 x2 x3 x4 x5 I)
    (kk : ∀ (Y : bk_Lay) (V : bk_Val) (H : Heap) (locs : List Loc) (ls : Array Slot) (cells slots : Nat), bk_H G Y V s.heap H locs → cells ≤ 601024 → slots ≤ 7293034 → W p l e room_1 s m args below meth c H locs cells slots Q (F0 m 2779 ls [])) :
    W p l e room_1 s m args below meth c s.heap [] 0 0 Q (F0 m 0 ls []) := by
  have hx := C.1
  have hb := C.2.1
  have hbA : ¬ bk_A G b := by
    unfold bk_A
    rw [hz]
    omega
  obtain ⟨e1, Y1, V1, hq1, e2, Y2, V2, hq2, e3, hI0⟩ := hi
  have hH : bk_H G (bk_Y0 s.heap.size) bk_V0 s.heap s.heap [] := by
    refine ⟨⟨rfl, fun a => ?_, fun a h => absurd rfl h⟩, va_S.rf, Nat.le_of_eq hz⟩
    unfold bk_cell
    rw [if_pos (show ((bk_Y0 s.heap.size).1 a).1 = 0 from rfl)]
    trivial
  refine bk_new C hH ok_10 cl_RL_8 ib_RX11 in_RX11 (by decide) (by decide) dL_law_0 (fun Ya Va H ea eb hH => ?_)
  subst ea eb
  rw [show bk_sz (bk_Y0 s.heap.size) = a1 from e1.symm]
  refine W.widen (k := 1) (n := 15) (by decide) (by decide) ?_
  refine lv_dup hx hb dL_law_3 rfl ?_
  refine bk_callI (b := a1) (rest := [.ref a1]) (As := []) (Y1 := Y1) (V1 := V1) C hH hl.1 (c_X11_init hq1) mc_X11_init im_X11_init rfl lk_RL_116 rfl ⟨rfl, rfl⟩ ⟨by decide, by decide⟩ rfl (Nat.le_of_ble_eq_true rfl) dL_law_4 ⟨by decide, by decide⟩ (fun H locs hH => ?_)
  refine W.widen (k := 100) (n := 6000) (by decide) (by decide) ?_
  refine lv_astore_n (lv' := [(1, .ref a1), (0, .ref b)]) hx hb dL_law_7 rfl hl (by decide) rfl (fun ls hl => ?_)
  refine bk_new C hH ok_11 cl_RL_117 ib_RX12 in_RX12 (by decide) (by decide) dL_law_8 (fun Ya Va H ea eb hH => ?_)
  subst ea eb
  rw [← e2]
  refine W.widen (k := 101) (n := 6100) (by decide) (by decide) ?_
  refine lv_dup hx hb dL_law_11 rfl ?_
  refine bk_callI (b := a2) (rest := [.ref a2]) (As := []) (Y1 := Y2) (V1 := V2) C hH hl.1 (c_X12_init hq2) mc_X12_init im_X12_init rfl lk_RL_119 rfl ⟨rfl, rfl⟩ ⟨by decide, by decide⟩ rfl (Nat.le_of_ble_eq_true rfl) dL_law_12 ⟨by decide, by decide⟩ (fun H locs hH => ?_)
  refine W.widen (k := 1999) (n := 60000) (by decide) (by decide) ?_
  refine lv_astore_n (lv' := [(2, .ref a2), (1, .ref a1), (0, .ref b)]) hx hb dL_law_15 rfl hl (by decide) rfl (fun ls hl => ?_)
  refine lv_iconst (v := 1) hx hb dL_law_16 (by decide) ?_
  refine bk_newa (K := 1) C hH (Or.inr (Or.inl ⟨rfl, rfl⟩)) ac_3 (by decide) (by decide) (by decide) (by decide) (by decide) dL_law_17 (fun Ya Va H ea eb hH => ?_)
  have ea : Ya = bk_nw Y2 (3, 1) := ea
  subst ea eb
  rw [← e3]
  refine lv_astore_n (lv' := [(3, .ref a3), (2, .ref a2), (1, .ref a1), (0, .ref b)]) hx hb dL_law_19 rfl hl (by decide) rfl (fun ls hl => ?_)
  refine lv_iconst (v := 0) hx hb dL_law_20 (by decide) ?_
  refine lv_istore (lv' := [(4, .int 0), (3, .ref a3), (2, .ref a2), (1, .ref a1), (0, .ref b)]) hx hb dL_law_21 hl (by decide) rfl (fun ls hl => ?_)
  exact bk_loop (c0 := 2000) (s0 := 60001) (N := N) (a1 := a1) (a2 := a2) (a3 := a3) (b := b) (L := L) (xs := xs) (I := I) C hst hX hbl hbA hL (by decide) (by decide) hI kk (L / 6) 0 _ _ H locs ls (Nat.zero_add _) hI0 hH (lv_sub hl [4, 3, 2, 1, 0] rfl)
end
