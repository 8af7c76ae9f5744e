/-! what is gone: the reference's, more narrowly -/
section
variable {N : Nat} {Y : bk_Lay} {V : bk_Val} {t r a b c d k v w h p m l s md : Nat} {x y lo hi : Int32} {D : Nat → Nat → Nat} {P : Nat → List Nat}
def pk_frG (r : Nat) (V V' : bk_Val) : Prop := (∀ a, a ≠ r + 18 → a ≠ r + 19 → V'.1 a = V.1 a) ∧ V'.2 = V.2
theorem pk_frG.rf : pk_frG r V V := ⟨fun _ _ _ => rfl, rfl⟩
theorem pk_frG.tr {V' V2 : bk_Val} (h : pk_frG r V V') (h2 : pk_frG r V' V2) : pk_frG r V V2 := ⟨fun a x y => (h2.1 a x y).trans (h.1 a x y), h2.2.trans h.2⟩
theorem pk_frG.wI18 {V' : bk_Val} {i : Nat} {u : Int32} (h : pk_frG r V V') : pk_frG r V (bk_wI V' (r + 18) i u) := ⟨fun a x y => (bk_up2_off _ _ x).trans (h.1 a x y), h.2⟩
theorem pk_frG.but {V' V2 : bk_Val} (h : pk_frG r V V') (h2 : pk_but (r + 19) V' V2) : pk_frG r V V2 := ⟨fun a x y => (h2.2 a y).trans (h.1 a x y), h2.1.trans h.2⟩
theorem pk_frG.R {V' : bk_Val} (h : pk_frG r V V') : pk_frR r V V' := ⟨fun a _ y z _ => h.1 a y z, fun k _ _ _ _ => congrFun (h.1 r (by omega) (by omega)) k, fun a _ _ _ => by rw [h.2]⟩
theorem pk_RT.frG {V' : bk_Val} (h : pk_RT V r D P) (e : pk_frG r V V') : pk_RT V' r D P := h.fr e.R
theorem pr_leakOfG (hN : 1000 ≤ N) (hS : pk_Rf Y r) (hT : pk_RT V r D P) (hB : pk_DB D P) (hh : h < D 2 0) (hp : p ≤ 100000) (hl : l < 2) : ∃ V2, q_X12_leakOf N Y V r (nI h) (nI p) (nI m) (nI l) = some (nI (sp_leak D P h (p / 1000) m l), V2) ∧ pk_frG r V V2 := by
  obtain ⟨c1, c2, c3, c4, c5, c6, c7⟩ := hT
  have hB' := hB
  obtain ⟨-, -, -, -, -, -, -, -, -, b1, b2, -, -, -, -, b3⟩ := hB'
  obtain ⟨g1, g2, g3, g4⟩ := c3 h hh
  obtain ⟨k1, k2⟩ := b3 0 (by omega)
  have hle := sp_leak_le (m := m) (l := l) hB hh (show p / 1000 ≤ 100 by omega)
  unfold q_X12_leakOf
  simp (disch := omega) only [hS, pk_ckT, pk_bs, pk_letE, pk_bd2E, pk_bd3E, if_true, if_false, eq_self, not_true_eq_false, not_false_eq_true, true_and, and_true, Nat.not_lt_zero, Nat.zero_le, Nat.reduceEqDiff, Nat.reduceLT, Nat.reduceLeDiff, pk_ck, pk_lit, nI_add, pk_mul, nI_clamp, nI_leI, nI_ltI, nI_eq, pk_div, pk_remE, pk_inE, pk_sub, g1, g2, g3, pk_rI_same, pk_rI_ne, pk_rI_wL, pk_rL_wI, pk_rL_same, pk_rL_ne]
  rcases c6 with ⟨e, c6⟩ | ⟨e, i, hi, c6, c8⟩
  · rw [sp_leak, if_pos e] at hle
    rw [if_pos c6, pr_kept (by decide), sp_cl_nI hle (by decide), pk_bs]
    refine ⟨V, ?_, pk_frG.rf⟩
    rw [sp_leak, if_pos e]
  · have hne : ¬ bk_rI V r 12 = -nI 1 := by
      rw [c6]
      intro q
      have := pk_eqm1 (a := i) (by omega)
      rw [this] at q
      exact q
    rw [if_neg hne]
    have fin : ∀ V', V' = bk_wI (bk_wI (bk_wI (bk_wI (bk_wI V (r + 18) 0 (nI (D 5 h))) (r + 18) 1 (nI (D 4 h))) (r + 18) 4 (nI (p / 1000))) (r + 18) 2 (nI m)) (r + 18) 3 (nI l) → ∃ V2, (bk_bd2 (q_X12_reckons N Y V' r (bk_rI V' r 12)) fun r_7 V_8 => Option.bind (q_X12_kept N Y V_8 r_7 (nI 50000)) fun r_10 => some (r_10, V_8)) = some (nI (sp_leak D P h (p / 1000) m l), V2) ∧ pk_frG r V V2 := by
      intro V' hV'
      have f1 : pk_frG r V V' := by
        rw [hV']
        exact pk_frG.rf.wI18.wI18.wI18.wI18.wI18
      have c8' : pk_RC V' (r + 5) 0 (P 0) i := c8.of (f1.1 _ (by omega) (by omega))
      have c6' : bk_rI V' r 12 = nI i := by
        rw [← c6]
        exact congrFun (f1.1 r (by omega) (by omega)) 12
      obtain ⟨V2, e1, e2⟩ := pr_reck (N := N) (Y := Y) (V := V') (r := r) (v := 5) (w := 0) (e := sp_env D h (p / 1000) m l) (by simp only [hS]) (by simp only [hS]) (by simp only [hS]) (by simp only [hS]) (by simp only [hS]) (by simp only [hS]) (by simp only [hS]) (by decide) (fun j hj => by
        have : j = 0 ∨ j = 1 ∨ j = 2 ∨ j = 3 ∨ j = 4 := by omega
        rw [hV']
        rcases this with rfl | rfl | rfl | rfl | rfl <;> simp only [pk_rI_same, sp_env, sp_vm, pk_ckT, pk_bs, pk_letE, pk_bd2E, pk_bd3E, if_true, if_false, eq_self, not_true_eq_false, not_false_eq_true, true_and, and_true, Nat.not_lt_zero, Nat.zero_le, Nat.reduceEqDiff, Nat.reduceLT, Nat.reduceLeDiff, pk_ck]) (P 0) i 0 N (fun _ => 0) V' c8' (k2 e) (by omega) (fun j hj => absurd hj (Nat.not_lt_zero _)) pk_but.rf (by omega)
      have e1 : q_X12_reckons N Y V' r (nI i) = some (sp_ev (sp_env D h (p / 1000) m l) (P 0) (fun _ => 0) 0, V2) := e1
      refine ⟨V2, ?_, f1.but e2⟩
      rw [c6', e1, pk_bd2E, sp_leak, if_neg e, pr_kept (by decide), pk_bs]
    simp (disch := omega) only [q_X12_leakOf_92, hS, pk_ckT, pk_bs, pk_letE, pk_bd2E, pk_bd3E, if_true, if_false, eq_self, not_true_eq_false, not_false_eq_true, true_and, and_true, Nat.not_lt_zero, Nat.zero_le, Nat.reduceEqDiff, Nat.reduceLT, Nat.reduceLeDiff, pk_ck, pk_lit, nI_clamp, pk_inE]
    have : l = 0 ∨ l = 1 := by omega
    rcases this with rfl | rfl
    · rw [if_pos rfl]; exact fin _ rfl
    · rw [if_neg (by decide)]; exact fin _ rfl
theorem pr_goneByG (hN : 1000 ≤ N) (hS : pk_Rf Y r) (hT : pk_RT V r D P) (hB : pk_DB D P) (hs : s < 2 ^ 31) (hp : p ≤ 100000) (hl : l < 2) : ∃ V2, q_X12_goneBy N Y V r (nI s) (nI p) (nI m) (nI l) = some (nI (sp_gone D P s p m l), V2) ∧ pk_frG r V V2 := by
  have b1 : D 2 0 ≤ 6 := hB.2.2.2.2.2.2.2.2.2.1
  have L := loop_i (σ := bk_Val × Int32) (fun n i u => ∃ V2, q_X12_goneBy_6 N Y n u.1 r (nI s) (nI p) (nI m) (nI l) u.2 (nI i) = some (nI (sp_gone D P s p m l), V2) ∧ pk_frG r V V2)
    (fun i u => pk_frG r V u.1 ∧ u.2 = nI (sp_sum (sp_goneF D P s p m l) i)) (D 2 0) ?_ ?_ N 0 (V, nI 0) (by omega) (by omega) ⟨pk_frG.rf, rfl⟩
  · exact L
  · intro n u hu
    obtain ⟨f1, e1⟩ := hu
    have T := hT.frG f1
    have g := sp_goneF_sum (s := s) (m := m) (l := l) hB hp (Nat.le_refl (D 2 0))
    refine ⟨u.1, ?_, f1⟩
    simp (disch := omega) only [q_X12_goneBy_6, hS, T.1, e1, pk_ckT, pk_bs, pk_letE, pk_bd2E, pk_bd3E, if_true, if_false, eq_self, not_true_eq_false, not_false_eq_true, true_and, and_true, Nat.not_lt_zero, Nat.zero_le, Nat.reduceEqDiff, Nat.reduceLT, Nat.reduceLeDiff, pk_ck, pk_lit, nI_add, pk_mul, nI_clamp, nI_leI, nI_ltI, nI_eq, pk_div, pk_remE, pk_inE, pk_sub, Nat.le_refl]
    unfold sp_gone
    have e4 : sp_sum (sp_goneF D P s p m l) (D 2 0) = sp_sum (fun h => if sp_bit s h then sp_leak D P h (p / 1000) m l else 0) (D 2 0) := rfl
    rw [← e4]
    by_cases c : p ≤ sp_sum (sp_goneF D P s p m l) (D 2 0)
    · rw [if_pos c, Nat.min_eq_right c]
    · rw [if_neg c, Nat.min_eq_left (by omega)]
  · intro n i u hi hu ih
    obtain ⟨f1, e1⟩ := hu
    have T := hT.frG f1
    have g := sp_goneF_sum (s := s) (m := m) (l := l) hB hp (Nat.le_of_lt hi)
    rw [q_X12_goneBy_6]
    simp (disch := omega) only [hS, T.1, e1, pk_ckT, pk_bs, pk_letE, pk_bd2E, pk_bd3E, if_true, if_false, eq_self, not_true_eq_false, not_false_eq_true, true_and, and_true, Nat.not_lt_zero, Nat.zero_le, Nat.reduceEqDiff, Nat.reduceLT, Nat.reduceLeDiff, pk_ck, pk_lit, nI_add, pk_mul, nI_clamp, nI_leI, nI_ltI, nI_eq, pk_div, pk_remE, pk_inE, pk_sub, pk_bitE]
    rw [if_neg (by omega)]
    have e3 : sp_sum (sp_goneF D P s p m l) (i + 1) = sp_sum (sp_goneF D P s p m l) i + sp_goneF D P s p m l i := rfl
    by_cases c : sp_bit s i
    · obtain ⟨V2, q1, q2⟩ := pr_leakOfG (N := N) (h := i) (p := p) (m := m) (l := l) hN hS T hB hi hp hl
      rw [if_pos c, q1]
      simp (disch := omega) only [pk_ckT, pk_bs, pk_letE, pk_bd2E, pk_bd3E, if_true, if_false, eq_self, not_true_eq_false, not_false_eq_true, true_and, and_true, Nat.not_lt_zero, Nat.zero_le, Nat.reduceEqDiff, Nat.reduceLT, Nat.reduceLeDiff, pk_ck, pk_lit, nI_add, pk_mul, nI_clamp, nI_leI, nI_ltI, nI_eq, pk_div, pk_remE, pk_inE, pk_sub, q_X12_goneBy_41]
      refine ih (V2, _) ⟨f1.tr q2, ?_⟩
      show nI _ = nI _
      rw [e3, sp_goneF, if_pos c]
    · rw [if_neg c]
      simp (disch := omega) only [pk_ckT, pk_bs, pk_letE, pk_bd2E, pk_bd3E, if_true, if_false, eq_self, not_true_eq_false, not_false_eq_true, true_and, and_true, Nat.not_lt_zero, Nat.zero_le, Nat.reduceEqDiff, Nat.reduceLT, Nat.reduceLeDiff, pk_ck, pk_lit, nI_add, pk_mul, nI_clamp, nI_leI, nI_ltI, nI_eq, pk_div, pk_remE, pk_inE, pk_sub, q_X12_goneBy_41]
      refine ih (u.1, nI (sp_sum (sp_goneF D P s p m l) i + 0)) ⟨f1, ?_⟩
      show nI _ = nI _
      rw [e3]
      simp only [sp_goneF, if_neg c]
end
