/-! holes that leak, what is gone in a minute -/
section
variable {N : Nat} {Y : bk_Lay} {V : bk_Val} {t r a b c d k v w h p m l s md : Nat} {x y lo hi : Int32} {D : Nat → Nat → Nat} {P : Nat → List Nat}
theorem sp_ok_at {v : Nat} : ∀ {l : List Nat} {k : Nat}, sp_ok v l k → l = [] → k = 1
  | _, _, h, rfl => h
theorem pc_cl {u : Int32} (hm : a < 2 ^ 31) : (q_J9_min_7cf53 N Y V u (nI a)).bind (fun r => (q_J9_max_7cf53 N Y V 0 r).bind fun r2 => some r2) = some (nI (sp_cl u a)) := by
  unfold q_J9_min_7cf53 q_J9_max_7cf53 sp_cl
  by_cases c1 : u < 0
  · have c2 : ¬ nI a < u := fun q => by
      rw [Int32.lt_iff_toInt_lt] at c1 q
      rw [nI_toInt hm] at q
      have : (0 : Int32).toInt = 0 := rfl
      omega
    rw [if_neg c2, pk_bs, if_neg (fun q => by rw [Int32.lt_iff_toInt_lt] at c1 q; omega), if_pos (show u < nI 0 from c1)]
    rfl
  · obtain ⟨j, hj, rfl⟩ := nI_of c1
    rw [if_neg (show ¬ nI j < nI 0 from c1), nI_clamp hj]
    simp only [nI_ltI hm hj]
    by_cases c2 : a < j
    · rw [if_pos c2, pk_bs, Nat.min_eq_right (by omega)]
      by_cases c3 : (0 : Int32) < nI a
      · rw [if_pos c3]; rfl
      · rw [if_neg c3]
        have : a = 0 := by
          have c3 : ¬ nI 0 < nI a := c3
          rw [nI_ltI (by omega) hm] at c3; omega
        rw [this]; rfl
    · rw [if_neg c2, pk_bs, Nat.min_eq_left (by omega)]
      by_cases c3 : (0 : Int32) < nI j
      · rw [if_pos c3]; rfl
      · rw [if_neg c3]
        have : j = 0 := by
          have c3 : ¬ nI 0 < nI j := c3
          rw [nI_ltI (by omega) hj] at c3; omega
        rw [this]; rfl
theorem pr_kept {u : Int32} (hm : a < 2 ^ 31) : q_X12_kept N Y V u (nI a) = some (nI (sp_cl u a)) := by
  unfold q_X12_kept sp_cl
  by_cases c1 : 0 ≤ u
  · have c2 : ¬ u < nI 0 := Int32.not_lt.mpr c1
    rw [if_pos c1, if_neg c2]
    obtain ⟨j, hj, rfl⟩ := nI_of c2
    rw [nI_clamp hj]
    simp only [nI_leI hj hm]
    split
    · rw [Nat.min_eq_left (by omega)]
    · rw [Nat.min_eq_right (by omega)]
  · rw [if_neg c1, if_pos (show u < nI 0 from Int32.not_le.mp c1)]; rfl
theorem pk_fr.wI {V' : bk_Val} {i : Nat} {u : Int32} (h : pk_fr t V V') : pk_fr t V (bk_wI V' (t + 21) i u) := by
  refine ⟨h.1, fun a x y z => ?_⟩
  rw [← h.2 a x y z]
  exact bk_up2_off _ _ z
theorem pk_fr.but {V' V2 : bk_Val} (h : pk_fr t V V') (h2 : pk_but (t + 17) V' V2 ∨ pk_but (t + 20) V' V2) : pk_fr t V V2 := by
  rcases h2 with h2 | h2
  · exact ⟨h2.1.trans h.1, fun a x y z => (h2.2 a x).trans (h.2 a x y z)⟩
  · exact ⟨h2.1.trans h.1, fun a x y z => (h2.2 a y).trans (h.2 a x y z)⟩
theorem pc_told {q : List Nat} (s1 : bk_sh Y a = (1, 3)) (hC : pk_CR V a b q) (hq : q.length ≤ 700) : q_X4_isTold N Y V a = some (pk_B (q ≠ [])) := by
  unfold q_X4_isTold
  rw [pk_ck s1, hC.1]
  by_cases e : q = []
  · rw [e, if_pos (by decide), pk_Bf (fun g => g rfl)]; rfl
  · have : 0 < q.length := List.length_pos_iff.mpr e
    rw [if_neg (nI_nle this (by omega)), pk_Bt e]; rfl
theorem pc_goneByHole (hN : 1000 ≤ N) (hS : pk_Sd Y t) (hT : pk_CT V t D P) (hB : pk_DB D P) (hh : h < D 2 0) (hp : p < 2 ^ 31) (hl : l < 2) : ∃ V2, q_X5_goneByHole N Y V t (nI h) (nI p) (nI m) (nI l) = some (nI (sp_leak D P h p m l), V2) ∧ pk_fr t V V2 := by
  obtain ⟨c1, c2, c3, c4, c5, c6, c7, c8, c9, c10⟩ := hT
  obtain ⟨-, -, -, -, -, -, -, -, -, b1, b2, -, -, -, -, b3⟩ := hB
  obtain ⟨g1, g2, g3, g4⟩ := c4 h hh
  obtain ⟨k1, k2⟩ := b3 0 (by omega)
  have s15 : bk_sh Y (t + 15) = (1, 3) := by simp only [hS]
  unfold q_X5_goneByHole
  simp (disch := omega) only [hS, pk_ckT, pk_bs, pk_letE, pk_bd2E, pk_bd3E, if_true, if_false, eq_self, not_true_eq_false, not_false_eq_true, true_and, and_true, Nat.not_lt_zero, Nat.zero_le, Nat.reduceEqDiff, Nat.reduceLT, Nat.reduceLeDiff, pk_ck, pc_told s15 c9 k1, pk_lit, pk_B0, g1, g2, g3, pk_inE, nI_clamp, pk_rI_same, pk_rI_ne, pk_rI_wL, pk_rL_wI, pk_rL_same, pk_rL_ne]
  by_cases e : P 0 = []
  · rw [if_pos (fun q => q e)]
    refine ⟨V, ?_, pk_fr.rf⟩
    rw [pk_mul, sp_leak, if_pos e]
  · rw [if_neg (fun q => q e)]
    have fin : ∀ V', V' = bk_wI (bk_wI (bk_wI (bk_wI (bk_wI V (t + 21) 0 (nI (D 5 h))) (t + 21) 1 (nI (D 4 h))) (t + 21) 2 (nI p)) (t + 21) 3 (nI m)) (t + 21) 4 (nI l) → ∃ V2, (bk_bd2 (q_X4_valueBy N Y V' (t + 15) (t + 21)) fun r_11 V_12 => Option.bind (q_J9_min_7cf53 N Y V_12 r_11 (nI 50000)) fun r_15 => Option.bind (q_J9_max_7cf53 N Y V_12 (nI 0) r_15) fun r_17 => some (r_17, V_12)) = some (nI (sp_leak D P h p m l), V2) ∧ pk_fr t V V2 := by
      intro V' hV'
      have f1 : pk_fr t V V' := by
        rw [hV']
        exact pk_fr.rf.wI.wI.wI.wI.wI
      have c9' : pk_CR V' (t + 15) (t + 15 + 1) (P 0) := c9.of (f1.2 _ (by omega) (by omega) (by omega)) (f1.2 _ (by omega) (by omega) (by omega))
      obtain ⟨V2, e1, e2⟩ := pc_value (N := N) (Y := Y) (V := V') (a := t + 15) (b := t + 21) (v := 5) (e := sp_env D h p m l) (l := P 0) (by simp only [hS]) (by simp only [hS]) (by simp only [hS]) (by simp only [hS]) (by simp only [hS]) (by simp only [hS]) (by omega) c9' k1 (by omega) (fun j hj => by
        have : j = 0 ∨ j = 1 ∨ j = 2 ∨ j = 3 ∨ j = 4 := by omega
        rw [hV']
        rcases this with rfl | rfl | rfl | rfl | rfl <;> simp only [pk_rI_same, sp_env, pk_ckT, pk_bs, pk_letE, pk_bd2E, pk_bd3E, if_true, if_false, eq_self, not_true_eq_false, not_false_eq_true, true_and, and_true, Nat.not_lt_zero, Nat.zero_le, Nat.reduceEqDiff, Nat.reduceLT, Nat.reduceLeDiff, pk_ck]) (P 0) 0 0 N (fun _ => 0) V' (by omega) (fun j _ => by rw [Nat.zero_add]) (k2 e) (by omega) (fun j hj => absurd hj (Nat.not_lt_zero _)) pk_but.rf (by omega)
      have e1 : q_X4_valueBy N Y V' (t + 15) (t + 21) = some (sp_ev (sp_env D h p m l) (P 0) (fun _ => 0) 0, V2) := e1
      refine ⟨V2, ?_, f1.but (Or.inl e2)⟩
      rw [e1, pk_bd2E, sp_leak, if_neg e]
      have := pc_cl (N := N) (Y := Y) (V := V2) (u := sp_ev (sp_env D h p m l) (P 0) (fun _ => 0) 0) (a := 50000) (by decide)
      generalize nI (sp_cl (sp_ev (sp_env D h p m l) (P 0) (fun _ => 0) 0) 50000) = u at *
      cases h1 : q_J9_min_7cf53 N Y V2 (sp_ev (sp_env D h p m l) (P 0) (fun _ => 0) 0) (nI 50000) with
      | none => rw [h1] at this; cases this
      | some u1 =>
        rw [h1, pk_bs] at this
        rw [pk_bs]
        have h3 : (q_J9_max_7cf53 N Y V2 (nI 0) u1).bind (fun r2 => some r2) = some u := this
        cases h2 : q_J9_max_7cf53 N Y V2 (nI 0) u1 with
        | none => rw [h2] at h3; cases h3
        | some u2 =>
          rw [h2, pk_bs] at h3
          rw [pk_bs, Option.some.inj h3]
    simp (disch := omega) only [nI_eq, q_X5_goneByHole_81, hS, pk_ckT, pk_bs, pk_letE, pk_bd2E, pk_bd3E, if_true, if_false, eq_self, not_true_eq_false, not_false_eq_true, true_and, and_true, Nat.not_lt_zero, Nat.zero_le, Nat.reduceEqDiff, Nat.reduceLT, Nat.reduceLeDiff, pk_ck, pk_lit, nI_clamp, pk_inE]
    have : l = 0 ∨ l = 1 := by omega
    rcases this with rfl | rfl
    · rw [if_pos rfl]; exact fin _ rfl
    · rw [if_neg (by decide)]; exact fin _ rfl
end
