/-! the reference's tokens: numbers, signs; known words -/
section
variable {N z t u s tl r a b c d k n j h m l p q q0 md wa s' i f e gg v S L g : Nat} {Y Y' : bk_Lay} {V V' V2 W : bk_Val} {x y x1 x2 x3 x4 x5 ee : Int32} {w1 w2 : Int64} {D : Nat → Nat → Nat} {P : Nat → List Nat} {T T' w R G In : Nat → Nat} {cc : Nat → Bool}
/-- digits of a number -/
theorem tq_dg (hL : L ≤ 700) (hp : p ≤ L) (h : tq_k T L p = 2) : (∀ i, i < tq_e T L p - tq_s T L p → tq_s T L p + i < L ∧ 48 ≤ T (tq_s T L p + i) ∧ T (tq_s T L p + i) ≤ 57) ∧ ¬ (48 ≤ tq_b T L (tq_e T L p) ∧ tq_b T L (tq_e T L p) ≤ 57) := by
  obtain ⟨s1, s2, -, -⟩ := tq_s_p (T := T) hL hp
  have hw : tq_s T L p < L := ((tq_e_p (T := T) hL hp).2.2.1 (by omega)).1
  have hk : tq_kd (T (tq_s T L p)) = 2 := by
    unfold tq_k at h
    rw [if_neg (by omega)] at h
    exact h
  have he : tq_e T L p = tq_r T L 2 (tq_s T L p + 1) := by
    unfold tq_e
    rw [if_neg (by omega), if_pos (Or.inr hk), hk]
  obtain ⟨-, -, hr, h4⟩ := tq_r_p (T := T) (c := 2) hL (show tq_s T L p + 1 ≤ L by omega)
  constructor
  · intro i hi
    by_cases c : i = 0
    · rw [c, Nat.add_zero]
      exact ⟨hw, tq_kd2.mp hk⟩
    · have := hr (tq_s T L p + i) (by omega) (by omega)
      exact ⟨this.1, tq_kd2.mp this.2⟩
  · rw [← he] at h4
    unfold tq_b
    by_cases c : tq_e T L p < L
    · rw [if_pos c]
      exact fun q => h4 ⟨c, tq_kd2.mpr q⟩
    · rw [if_neg c]
      omega
theorem tq_v_lt (hL : L ≤ 700) (hp : p ≤ L) : tq_v T L p < 10000 := by
  unfold tq_v
  by_cases c : tq_k T L p = 2
  · rw [if_pos c]
    have h1 := (tq_dg (T := T) hL hp c).1
    have h2 := tq_nv_lt (a := fun i => T (tq_s T L p + i) - 48) (n := tq_e T L p - tq_s T L p) (fun i hi => by have := h1 i hi; show T (tq_s T L p + i) - 48 < 10; omega) (min (tq_e T L p - tq_s T L p) 4) (by omega)
    have h3 : 10 ^ (min (tq_e T L p - tq_s T L p) 4) ≤ 10 ^ 4 := Nat.pow_le_pow_right (by omega) (by omega)
    omega
  · rw [if_neg c]
    omega
theorem pk_d48 (hb : 48 ≤ b) : nI a + nI b - nI 48 = nI (a + (b - 48)) := by
  rw [nI_add, pk_sub (by omega), show a + b - 48 = a + (b - 48) by omega]
theorem pr_g187 (hN : 1000 ≤ N) (hS : pk_Rf Y r) (hx : pk_txR r V T L) (hp : p ≤ L) (hk : tq_k T L p = 2) (h25 : bk_rI V r 25 = nI (tq_s T L p)) (h27 : bk_rI V r 27 = nI (tq_s T L p)) (h29 : bk_rI V r 29 = nI 0) (h30 : bk_rI V r 30 = nI (tq_b T L (tq_s T L p))) (h31 : bk_rL V r 31 = lN 0) : ∃ V', q_X12_goes_187 N Y N V r = some V' ∧ pk_frT r V V' ∧ pk_tkR r V' T L p := by
  have hL := hx.2.2.1
  obtain ⟨s1, s2, -, -⟩ := tq_s_p (T := T) hL hp
  obtain ⟨t1, t2, t3, -⟩ := tq_e_p (T := T) hL hp
  obtain ⟨hlt, hend⟩ := tq_dg (T := T) hL hp hk
  refine loop_i (σ := bk_Val) (fun fu j V1 => ∃ V', q_X12_goes_187 N Y fu V1 r = some V' ∧ pk_frT r V V' ∧ pk_tkR r V' T L p) (fun j V1 => tq_s T L p ≤ j ∧ pk_frT r V V1 ∧ bk_rI V1 r 25 = nI j ∧ bk_rI V1 r 27 = nI (tq_s T L p) ∧ bk_rI V1 r 29 = nI (tq_nv (fun i => T (tq_s T L p + i) - 48) (min (j - tq_s T L p) 4)) ∧ bk_rI V1 r 30 = nI (tq_b T L (tq_s T L p)) ∧ bk_rL V1 r 31 = lN 0) (tq_e T L p) ?_ ?_ N (tq_s T L p) V (by omega) (by omega) ⟨Nat.le_refl _, pk_frT.rf, h25, h27, by rw [Nat.sub_self]; exact h29, h30, h31⟩
  · intro fu V1 hV
    obtain ⟨g0, g1, g2, g3, g4, g5, g6⟩ := hV
    have hb := tq_b_lt (L := L) (j := tq_e T L p) hx.2.1
    have e331 := pr_g331 (N := N) (V := bk_wI V1 r 26 (nI 2)) (a := tq_e T L p) (b := tq_s T L p) hS (by rw [pk_rI_same, if_neg (by omega)]; exact g2) (by rw [pk_rI_same, if_neg (by omega)]; exact g3) t1
    refine ⟨bk_wI (bk_wI V1 r 26 (nI 2)) r 28 (nI (tq_e T L p - tq_s T L p)), ?_, (g1.tr (pk_frT.wI (by omega))).tr (pk_frT.wI (by omega)), ?_, ?_, ?_, ?_, ?_, ?_, ?_⟩
    · rw [q_X12_goes_187]
      simp (disch := omega) only [hS, pk_ckT, pk_bs, pk_letE, pk_bd2E, pk_bd3E, if_true, if_false, eq_self, not_true_eq_false, not_false_eq_true, true_and, and_true, Nat.not_lt_zero, Nat.zero_le, Nat.reduceEqDiff, Nat.reduceLT, Nat.reduceLeDiff, pk_ck, g2, pr_byteAt hS (hx.fr g1), pr_isDigit hb, pk_lit, pk_B0]
      rw [if_pos hend]
      exact e331
    · simp (disch := omega) only [pk_rI_same, pk_rI_ne, pk_rI_wL, pk_rL_wI, pk_rL_same, pk_rL_ne, pk_ckT, pk_bs, pk_letE, pk_bd2E, pk_bd3E, if_true, if_false, eq_self, not_true_eq_false, not_false_eq_true, true_and, and_true, Nat.not_lt_zero, Nat.zero_le, Nat.reduceEqDiff, Nat.reduceLT, Nat.reduceLeDiff, pk_ck, g2]
    · simp (disch := omega) only [pk_rI_same, pk_rI_ne, pk_rI_wL, pk_rL_wI, pk_rL_same, pk_rL_ne, pk_ckT, pk_bs, pk_letE, pk_bd2E, pk_bd3E, if_true, if_false, eq_self, not_true_eq_false, not_false_eq_true, true_and, and_true, Nat.not_lt_zero, Nat.zero_le, Nat.reduceEqDiff, Nat.reduceLT, Nat.reduceLeDiff, pk_ck, hk]
    · simp (disch := omega) only [pk_rI_same, pk_rI_ne, pk_rI_wL, pk_rL_wI, pk_rL_same, pk_rL_ne, pk_ckT, pk_bs, pk_letE, pk_bd2E, pk_bd3E, if_true, if_false, eq_self, not_true_eq_false, not_false_eq_true, true_and, and_true, Nat.not_lt_zero, Nat.zero_le, Nat.reduceEqDiff, Nat.reduceLT, Nat.reduceLeDiff, pk_ck, g3]
    · simp (disch := omega) only [pk_rI_same, pk_rI_ne, pk_rI_wL, pk_rL_wI, pk_rL_same, pk_rL_ne, pk_ckT, pk_bs, pk_letE, pk_bd2E, pk_bd3E, if_true, if_false, eq_self, not_true_eq_false, not_false_eq_true, true_and, and_true, Nat.not_lt_zero, Nat.zero_le, Nat.reduceEqDiff, Nat.reduceLT, Nat.reduceLeDiff, pk_ck]
    · simp (disch := omega) only [pk_rI_same, pk_rI_ne, pk_rI_wL, pk_rL_wI, pk_rL_same, pk_rL_ne, pk_ckT, pk_bs, pk_letE, pk_bd2E, pk_bd3E, if_true, if_false, eq_self, not_true_eq_false, not_false_eq_true, true_and, and_true, Nat.not_lt_zero, Nat.zero_le, Nat.reduceEqDiff, Nat.reduceLT, Nat.reduceLeDiff, pk_ck, g4]
      unfold tq_v
      rw [if_pos hk]
    · simp (disch := omega) only [pk_rI_same, pk_rI_ne, pk_rI_wL, pk_rL_wI, pk_rL_same, pk_rL_ne, pk_ckT, pk_bs, pk_letE, pk_bd2E, pk_bd3E, if_true, if_false, eq_self, not_true_eq_false, not_false_eq_true, true_and, and_true, Nat.not_lt_zero, Nat.zero_le, Nat.reduceEqDiff, Nat.reduceLT, Nat.reduceLeDiff, pk_ck, g5]
    · simp (disch := omega) only [pk_rI_same, pk_rI_ne, pk_rI_wL, pk_rL_wI, pk_rL_same, pk_rL_ne, g6]
      unfold tq_hs
      rw [if_neg (by omega)]
  · intro fu j V1 hj hV ih
    obtain ⟨g0, g1, g2, g3, g4, g5, g6⟩ := hV
    have hlj := hlt (j - tq_s T L p) (by omega)
    rw [show tq_s T L p + (j - tq_s T L p) = j by omega] at hlj
    have hbj : tq_b T L j = T j := if_pos hlj.1
    rw [q_X12_goes_187]
    simp (disch := omega) only [hS, pk_ckT, pk_bs, pk_letE, pk_bd2E, pk_bd3E, if_true, if_false, eq_self, not_true_eq_false, not_false_eq_true, true_and, and_true, Nat.not_lt_zero, Nat.zero_le, Nat.reduceEqDiff, Nat.reduceLT, Nat.reduceLeDiff, pk_ck, g2, pr_byteAt hS (hx.fr g1), hbj, pr_isDigit (hx.2.1 j), pk_lit, pk_B0, g3, pk_sub, nI_leI]
    rw [if_neg (fun q => q hlj.2)]
    by_cases c : 4 ≤ j - tq_s T L p
    · rw [if_pos c]
      unfold q_X12_goes_237
      simp (disch := omega) only [hS, pk_ckT, pk_bs, pk_letE, pk_bd2E, pk_bd3E, if_true, if_false, eq_self, not_true_eq_false, not_false_eq_true, true_and, and_true, Nat.not_lt_zero, Nat.zero_le, Nat.reduceEqDiff, Nat.reduceLT, Nat.reduceLeDiff, pk_ck, g2, pk_lit, nI_add]
      refine ih _ ⟨by omega, g1.tr (pk_frT.wI (by omega)), by rw [pk_rI_same, if_pos rfl], by rw [pk_rI_same, if_neg (by omega)]; exact g3, ?_, by rw [pk_rI_same, if_neg (by omega)]; exact g5, g6⟩
      rw [pk_rI_same, if_neg (by omega), g4, Nat.min_eq_right c, Nat.min_eq_right (by omega)]
    · rw [if_neg c]
      rw [Nat.min_eq_left (by omega)] at g4
      unfold q_X12_goes_237
      simp (disch := omega) only [hS, pk_ckT, pk_bs, pk_letE, pk_bd2E, pk_bd3E, if_true, if_false, eq_self, not_true_eq_false, not_false_eq_true, true_and, and_true, Nat.not_lt_zero, Nat.zero_le, Nat.reduceEqDiff, Nat.reduceLT, Nat.reduceLeDiff, pk_ck, g2, pk_lit, g4, pk_rI_same, pk_rI_ne, pk_rI_wL, pk_rL_wI, pk_rL_same, pk_rL_ne, pk_mul]
      rw [pk_d48 hlj.2.1, nI_add]
      refine ih _ ⟨by omega, (g1.tr (pk_frT.wI (by omega))).tr (pk_frT.wI (by omega)), by rw [pk_rI_same, if_pos rfl], by rw [pk_rI_same, if_neg (by omega), pk_rI_same, if_neg (by omega)]; exact g3, ?_, by rw [pk_rI_same, if_neg (by omega), pk_rI_same, if_neg (by omega)]; exact g5, g6⟩
      rw [pk_rI_same, if_neg (by omega), pk_rI_same, if_pos rfl, Nat.min_eq_left (by omega), show j + 1 - tq_s T L p = (j - tq_s T L p) + 1 by omega]
      show _ = nI (10 * tq_nv (fun i => T (tq_s T L p + i) - 48) (j - tq_s T L p) + (T (tq_s T L p + (j - tq_s T L p)) - 48))
      rw [show tq_s T L p + (j - tq_s T L p) = j by omega]
theorem tq_sg_iff : tq_sg c = true ↔ (c = 59 ∨ c = 40 ∨ c = 41 ∨ c = 43 ∨ c = 45 ∨ c = 42 ∨ c = 47 ∨ c = 60 ∨ c = 61) := by
  unfold tq_sg
  simp only [Bool.or_eq_true, beq_iff_eq]
  omega
theorem pr_g50 (hN : 1000 ≤ N) (hS : pk_Rf Y r) (hx : pk_txR r V T L) (hp : p ≤ L) (h25 : bk_rI V r 25 = nI (tq_s T L p)) : ∃ V', q_X12_goes_50 N Y V r = some V' ∧ pk_frT r V V' ∧ pk_tkR r V' T L p := by
  have hL := hx.2.2.1
  obtain ⟨s1, s2, -, -⟩ := tq_s_p (T := T) hL hp
  obtain ⟨t1, t2, t3, t4⟩ := tq_e_p (T := T) hL hp
  obtain ⟨V1, hV1⟩ : ∃ V1, V1 = bk_wI (bk_wI (bk_wL (bk_wI V r 27 (nI (tq_s T L p))) r 31 (lN 0)) r 29 (nI 0)) r 30 (nI (tq_b T L (tq_s T L p))) := ⟨_, rfl⟩
  have f0 : pk_frT r V (bk_wI (bk_wL (bk_wI V r 27 (nI (tq_s T L p))) r 31 (lN 0)) r 29 (nI 0)) := ((pk_frT.wI (by omega)).tr pk_frT.wL).tr (pk_frT.wI (by omega))
  have f1 : pk_frT r V V1 := by rw [hV1]; exact f0.tr (pk_frT.wI (by omega))
  have g25 : bk_rI V1 r 25 = nI (tq_s T L p) := by rw [hV1]; simp (disch := omega) only [pk_rI_same, pk_rI_ne, pk_rI_wL, pk_rL_wI, pk_rL_same, pk_rL_ne, pk_ckT, pk_bs, pk_letE, pk_bd2E, pk_bd3E, if_true, if_false, eq_self, not_true_eq_false, not_false_eq_true, true_and, and_true, Nat.not_lt_zero, Nat.zero_le, Nat.reduceEqDiff, Nat.reduceLT, Nat.reduceLeDiff, pk_ck, h25]
  have g27 : bk_rI V1 r 27 = nI (tq_s T L p) := by rw [hV1]; simp (disch := omega) only [pk_rI_same, pk_rI_ne, pk_rI_wL, pk_rL_wI, pk_rL_same, pk_rL_ne, pk_ckT, pk_bs, pk_letE, pk_bd2E, pk_bd3E, if_true, if_false, eq_self, not_true_eq_false, not_false_eq_true, true_and, and_true, Nat.not_lt_zero, Nat.zero_le, Nat.reduceEqDiff, Nat.reduceLT, Nat.reduceLeDiff, pk_ck]
  have g29 : bk_rI V1 r 29 = nI 0 := by rw [hV1]; simp (disch := omega) only [pk_rI_same, pk_rI_ne, pk_rI_wL, pk_rL_wI, pk_rL_same, pk_rL_ne, pk_ckT, pk_bs, pk_letE, pk_bd2E, pk_bd3E, if_true, if_false, eq_self, not_true_eq_false, not_false_eq_true, true_and, and_true, Nat.not_lt_zero, Nat.zero_le, Nat.reduceEqDiff, Nat.reduceLT, Nat.reduceLeDiff, pk_ck]
  have g30 : bk_rI V1 r 30 = nI (tq_b T L (tq_s T L p)) := by rw [hV1]; simp (disch := omega) only [pk_rI_same, pk_rI_ne, pk_rI_wL, pk_rL_wI, pk_rL_same, pk_rL_ne, pk_ckT, pk_bs, pk_letE, pk_bd2E, pk_bd3E, if_true, if_false, eq_self, not_true_eq_false, not_false_eq_true, true_and, and_true, Nat.not_lt_zero, Nat.zero_le, Nat.reduceEqDiff, Nat.reduceLT, Nat.reduceLeDiff, pk_ck]
  have g31 : bk_rL V1 r 31 = lN 0 := by rw [hV1]; simp (disch := omega) only [pk_rI_same, pk_rI_ne, pk_rI_wL, pk_rL_wI, pk_rL_same, pk_rL_ne, pk_ckT, pk_bs, pk_letE, pk_bd2E, pk_bd3E, if_true, if_false, eq_self, not_true_eq_false, not_false_eq_true, true_and, and_true, Nat.not_lt_zero, Nat.zero_le, Nat.reduceEqDiff, Nat.reduceLT, Nat.reduceLeDiff, pk_ck]
  have g24 : bk_rI V1 r 24 = nI L := (hx.fr f1).2.2.2
  have e0 : q_X12_goes_50 N Y V r = if nI (tq_s T L p) < nI L then Option.bind (q_X12_isLetter N Y V1 (nI (tq_b T L (tq_s T L p)))) (fun r_51 => if r_51 = 0 then Option.bind (q_X12_isDigit N Y V1 (nI (tq_b T L (tq_s T L p)))) (fun r_53 => if r_53 = 0 then (if nI (tq_b T L (tq_s T L p)) = 59 then q_X12_goes_323 N Y (bk_wI V1 r 25 (nI (tq_s T L p + 1))) r r else if nI (tq_b T L (tq_s T L p)) = 40 then q_X12_goes_323 N Y (bk_wI V1 r 25 (nI (tq_s T L p + 1))) r r else if nI (tq_b T L (tq_s T L p)) = 41 then q_X12_goes_323 N Y (bk_wI V1 r 25 (nI (tq_s T L p + 1))) r r else if nI (tq_b T L (tq_s T L p)) = 43 then q_X12_goes_323 N Y (bk_wI V1 r 25 (nI (tq_s T L p + 1))) r r else if nI (tq_b T L (tq_s T L p)) = 45 then q_X12_goes_323 N Y (bk_wI V1 r 25 (nI (tq_s T L p + 1))) r r else if nI (tq_b T L (tq_s T L p)) = 42 then q_X12_goes_323 N Y (bk_wI V1 r 25 (nI (tq_s T L p + 1))) r r else if nI (tq_b T L (tq_s T L p)) = 47 then q_X12_goes_323 N Y (bk_wI V1 r 25 (nI (tq_s T L p + 1))) r r else if nI (tq_b T L (tq_s T L p)) = 60 then q_X12_goes_323 N Y (bk_wI V1 r 25 (nI (tq_s T L p + 1))) r r else if nI (tq_b T L (tq_s T L p)) = 61 then q_X12_goes_323 N Y (bk_wI V1 r 25 (nI (tq_s T L p + 1))) r r else q_X12_goes_328 N Y (bk_wI V1 r 25 (nI (tq_s T L p + 1))) r r 4) else q_X12_goes_187 N Y N V1 r) else q_X12_goes_108 N Y N V1 r) else q_X12_goes_331 N Y (bk_wI V1 r 26 (nI 0)) r := by
    have hb := pr_byteAt (N := N) (j := tq_s T L p) hS (hx.fr f0) (by omega)
    have h25' : bk_rI (bk_wI (bk_wL (bk_wI V r 27 (nI (tq_s T L p))) r 31 (lN 0)) r 29 (nI 0)) r 25 = nI (tq_s T L p) := by simp (disch := omega) only [pk_rI_same, pk_rI_ne, pk_rI_wL, pk_rL_wI, pk_rL_same, pk_rL_ne, pk_ckT, pk_bs, pk_letE, pk_bd2E, pk_bd3E, if_true, if_false, eq_self, not_true_eq_false, not_false_eq_true, true_and, and_true, Nat.not_lt_zero, Nat.zero_le, Nat.reduceEqDiff, Nat.reduceLT, Nat.reduceLeDiff, pk_ck, h25]
    unfold q_X12_goes_50
    rw [pk_ck hS.1, pk_letE, h25, pk_letE, pk_letE]
    show Option.bind (q_X12_byteAt N Y (bk_wI (bk_wL (bk_wI V r 27 (nI (tq_s T L p))) r 31 (lN 0)) r 29 (nI 0)) r (bk_rI (bk_wI (bk_wL (bk_wI V r 27 (nI (tq_s T L p))) r 31 (lN 0)) r 29 (nI 0)) r 25)) _ = _
    rw [h25', hb, pk_bs, pk_letE, show bk_wI (bk_wI (bk_wL (bk_wI V r 27 (nI (tq_s T L p))) r 31 0) r 29 0) r 30 (nI (tq_b T L (tq_s T L p))) = V1 from hV1.symm, g25, g24]
    simp only [pk_letE, pk_lit, nI_add]
  rw [e0]
  by_cases c : tq_s T L p < L
  · rw [if_pos (by rw [nI_ltI (by omega) (by omega)]; exact c)]
    have hbs : tq_b T L (tq_s T L p) = T (tq_s T L p) := if_pos c
    have hc := hx.2.1 (tq_s T L p)
    have htk : tq_k T L p = tq_kd (T (tq_s T L p)) := if_neg (by omega)
    rw [hbs] at g30
    rw [hbs, pr_isLetter hc, pk_bs]
    by_cases c1 : tq_kd (T (tq_s T L p)) = 1
    · rw [pk_Bt (tq_kd1.mp c1), if_neg (by decide)]
      obtain ⟨V', e1, e2, e3⟩ := pr_g108 (N := N) hN hS (hx.fr f1) hp (by rw [htk]; exact c1) g25 g27 g29 (by rw [hbs]; exact g30) g31
      exact ⟨V', e1, f1.tr e2, e3⟩
    · rw [pk_Bf (fun q => c1 (tq_kd1.mpr q)), if_pos (show nI 0 = (0 : Int32) from rfl), pr_isDigit hc, pk_bs]
      by_cases c2 : tq_kd (T (tq_s T L p)) = 2
      · rw [pk_Bt (tq_kd2.mp c2), if_neg (by decide)]
        obtain ⟨V', e1, e2, e3⟩ := pr_g187 (N := N) hN hS (hx.fr f1) hp (by rw [htk]; exact c2) g25 g27 g29 (by rw [hbs]; exact g30) g31
        exact ⟨V', e1, f1.tr e2, e3⟩
      · rw [pk_Bf (fun q => c2 (tq_kd2.mpr q)), if_pos (show nI 0 = (0 : Int32) from rfl)]
        have hte : tq_e T L p = tq_s T L p + 1 := by
          unfold tq_e
          rw [if_neg (by omega), if_neg (by omega)]
        have hkb := tq_kd_b (T (tq_s T L p))
        have fin : ∀ k, tq_kd (T (tq_s T L p)) = k → ∃ V', q_X12_goes_328 N Y (bk_wI V1 r 25 (nI (tq_s T L p + 1))) r r (nI k) = some V' ∧ pk_frT r V V' ∧ pk_tkR r V' T L p := by
          intro k hk
          have e331 := pr_g331 (N := N) (V := bk_wI (bk_wI V1 r 25 (nI (tq_s T L p + 1))) r 26 (nI k)) (a := tq_s T L p + 1) (b := tq_s T L p) hS (by simp (disch := omega) only [pk_rI_same, pk_rI_ne, pk_rI_wL, pk_rL_wI, pk_rL_same, pk_rL_ne, pk_ckT, pk_bs, pk_letE, pk_bd2E, pk_bd3E, if_true, if_false, eq_self, not_true_eq_false, not_false_eq_true, true_and, and_true, Nat.not_lt_zero, Nat.zero_le, Nat.reduceEqDiff, Nat.reduceLT, Nat.reduceLeDiff, pk_ck]) (by simp (disch := omega) only [pk_rI_same, pk_rI_ne, pk_rI_wL, pk_rL_wI, pk_rL_same, pk_rL_ne, pk_ckT, pk_bs, pk_letE, pk_bd2E, pk_bd3E, if_true, if_false, eq_self, not_true_eq_false, not_false_eq_true, true_and, and_true, Nat.not_lt_zero, Nat.zero_le, Nat.reduceEqDiff, Nat.reduceLT, Nat.reduceLeDiff, pk_ck, g27]) (by omega)
          refine ⟨bk_wI (bk_wI (bk_wI V1 r 25 (nI (tq_s T L p + 1))) r 26 (nI k)) r 28 (nI (tq_s T L p + 1 - tq_s T L p)), ?_, ((f1.tr (pk_frT.wI (by omega))).tr (pk_frT.wI (by omega))).tr (pk_frT.wI (by omega)), ?_, ?_, ?_, ?_, ?_, ?_, ?_⟩
          · unfold q_X12_goes_328
            rw [pk_ck hS.1, pk_letE]
            exact e331
          · simp (disch := omega) only [pk_rI_same, pk_rI_ne, pk_rI_wL, pk_rL_wI, pk_rL_same, pk_rL_ne, pk_ckT, pk_bs, pk_letE, pk_bd2E, pk_bd3E, if_true, if_false, eq_self, not_true_eq_false, not_false_eq_true, true_and, and_true, Nat.not_lt_zero, Nat.zero_le, Nat.reduceEqDiff, Nat.reduceLT, Nat.reduceLeDiff, pk_ck, hte]
          · simp (disch := omega) only [pk_rI_same, pk_rI_ne, pk_rI_wL, pk_rL_wI, pk_rL_same, pk_rL_ne, pk_ckT, pk_bs, pk_letE, pk_bd2E, pk_bd3E, if_true, if_false, eq_self, not_true_eq_false, not_false_eq_true, true_and, and_true, Nat.not_lt_zero, Nat.zero_le, Nat.reduceEqDiff, Nat.reduceLT, Nat.reduceLeDiff, pk_ck, htk, hk]
          · simp (disch := omega) only [pk_rI_same, pk_rI_ne, pk_rI_wL, pk_rL_wI, pk_rL_same, pk_rL_ne, pk_ckT, pk_bs, pk_letE, pk_bd2E, pk_bd3E, if_true, if_false, eq_self, not_true_eq_false, not_false_eq_true, true_and, and_true, Nat.not_lt_zero, Nat.zero_le, Nat.reduceEqDiff, Nat.reduceLT, Nat.reduceLeDiff, pk_ck, g27]
          · simp (disch := omega) only [pk_rI_same, pk_rI_ne, pk_rI_wL, pk_rL_wI, pk_rL_same, pk_rL_ne, pk_ckT, pk_bs, pk_letE, pk_bd2E, pk_bd3E, if_true, if_false, eq_self, not_true_eq_false, not_false_eq_true, true_and, and_true, Nat.not_lt_zero, Nat.zero_le, Nat.reduceEqDiff, Nat.reduceLT, Nat.reduceLeDiff, pk_ck, hte]
          · simp (disch := omega) only [pk_rI_same, pk_rI_ne, pk_rI_wL, pk_rL_wI, pk_rL_same, pk_rL_ne, pk_ckT, pk_bs, pk_letE, pk_bd2E, pk_bd3E, if_true, if_false, eq_self, not_true_eq_false, not_false_eq_true, true_and, and_true, Nat.not_lt_zero, Nat.zero_le, Nat.reduceEqDiff, Nat.reduceLT, Nat.reduceLeDiff, pk_ck, g29]
            unfold tq_v
            rw [if_neg (by omega)]
          · simp (disch := omega) only [pk_rI_same, pk_rI_ne, pk_rI_wL, pk_rL_wI, pk_rL_same, pk_rL_ne, pk_ckT, pk_bs, pk_letE, pk_bd2E, pk_bd3E, if_true, if_false, eq_self, not_true_eq_false, not_false_eq_true, true_and, and_true, Nat.not_lt_zero, Nat.zero_le, Nat.reduceEqDiff, Nat.reduceLT, Nat.reduceLeDiff, pk_ck, g30, hbs]
          · simp (disch := omega) only [pk_rI_same, pk_rI_ne, pk_rI_wL, pk_rL_wI, pk_rL_same, pk_rL_ne, g31]
            unfold tq_hs
            rw [if_neg (by omega)]
        have hk34 : tq_kd (T (tq_s T L p)) = if tq_sg (T (tq_s T L p)) then 3 else 4 := by
          unfold tq_kd
          rw [if_neg (fun q => c1 (tq_kd1.mpr q)), if_neg (fun q => c2 (tq_kd2.mpr q))]
        simp (disch := omega) only [pk_lit, nI_eq, q_X12_goes_323]
        by_cases c3 : tq_sg (T (tq_s T L p)) = true
        · have f3 := fin 3 (by rw [hk34, if_pos c3])
          have h9 := tq_sg_iff.mp c3
          by_cases d1 : T (tq_s T L p) = 59
          · rw [if_pos d1]; exact f3
          rw [if_neg d1]
          by_cases d2 : T (tq_s T L p) = 40
          · rw [if_pos d2]; exact f3
          rw [if_neg d2]
          by_cases d3 : T (tq_s T L p) = 41
          · rw [if_pos d3]; exact f3
          rw [if_neg d3]
          by_cases d4 : T (tq_s T L p) = 43
          · rw [if_pos d4]; exact f3
          rw [if_neg d4]
          by_cases d5 : T (tq_s T L p) = 45
          · rw [if_pos d5]; exact f3
          rw [if_neg d5]
          by_cases d6 : T (tq_s T L p) = 42
          · rw [if_pos d6]; exact f3
          rw [if_neg d6]
          by_cases d7 : T (tq_s T L p) = 47
          · rw [if_pos d7]; exact f3
          rw [if_neg d7]
          by_cases d8 : T (tq_s T L p) = 60
          · rw [if_pos d8]; exact f3
          rw [if_neg d8, if_pos (by omega)]
          exact f3
        · have f4 := fin 4 (by rw [hk34, if_neg c3])
          have h9 : ¬ (T (tq_s T L p) = 59 ∨ T (tq_s T L p) = 40 ∨ T (tq_s T L p) = 41 ∨ T (tq_s T L p) = 43 ∨ T (tq_s T L p) = 45 ∨ T (tq_s T L p) = 42 ∨ T (tq_s T L p) = 47 ∨ T (tq_s T L p) = 60 ∨ T (tq_s T L p) = 61) := fun q => c3 (tq_sg_iff.mpr q)
          rw [if_neg (by omega), if_neg (by omega), if_neg (by omega), if_neg (by omega), if_neg (by omega), if_neg (by omega), if_neg (by omega), if_neg (by omega), if_neg (by omega)]
          exact f4
  · rw [if_neg (by rw [nI_ltI (by omega) (by omega)]; exact c)]
    have htk : tq_k T L p = 0 := if_pos (by omega)
    obtain ⟨u1, u2⟩ := t4 htk
    have e331 := pr_g331 (N := N) (V := bk_wI V1 r 26 (nI 0)) (a := tq_s T L p) (b := tq_s T L p) hS (by simp (disch := omega) only [pk_rI_same, pk_rI_ne, pk_rI_wL, pk_rL_wI, pk_rL_same, pk_rL_ne, pk_ckT, pk_bs, pk_letE, pk_bd2E, pk_bd3E, if_true, if_false, eq_self, not_true_eq_false, not_false_eq_true, true_and, and_true, Nat.not_lt_zero, Nat.zero_le, Nat.reduceEqDiff, Nat.reduceLT, Nat.reduceLeDiff, pk_ck, g25]) (by simp (disch := omega) only [pk_rI_same, pk_rI_ne, pk_rI_wL, pk_rL_wI, pk_rL_same, pk_rL_ne, pk_ckT, pk_bs, pk_letE, pk_bd2E, pk_bd3E, if_true, if_false, eq_self, not_true_eq_false, not_false_eq_true, true_and, and_true, Nat.not_lt_zero, Nat.zero_le, Nat.reduceEqDiff, Nat.reduceLT, Nat.reduceLeDiff, pk_ck, g27]) (by omega)
    refine ⟨bk_wI (bk_wI V1 r 26 (nI 0)) r 28 (nI (tq_s T L p - tq_s T L p)), e331, (f1.tr (pk_frT.wI (by omega))).tr (pk_frT.wI (by omega)), ?_, ?_, ?_, ?_, ?_, ?_, ?_⟩
    · simp (disch := omega) only [pk_rI_same, pk_rI_ne, pk_rI_wL, pk_rL_wI, pk_rL_same, pk_rL_ne, pk_ckT, pk_bs, pk_letE, pk_bd2E, pk_bd3E, if_true, if_false, eq_self, not_true_eq_false, not_false_eq_true, true_and, and_true, Nat.not_lt_zero, Nat.zero_le, Nat.reduceEqDiff, Nat.reduceLT, Nat.reduceLeDiff, pk_ck, g25, u1, u2]
    · simp (disch := omega) only [pk_rI_same, pk_rI_ne, pk_rI_wL, pk_rL_wI, pk_rL_same, pk_rL_ne, pk_ckT, pk_bs, pk_letE, pk_bd2E, pk_bd3E, if_true, if_false, eq_self, not_true_eq_false, not_false_eq_true, true_and, and_true, Nat.not_lt_zero, Nat.zero_le, Nat.reduceEqDiff, Nat.reduceLT, Nat.reduceLeDiff, pk_ck, htk]
    · simp (disch := omega) only [pk_rI_same, pk_rI_ne, pk_rI_wL, pk_rL_wI, pk_rL_same, pk_rL_ne, pk_ckT, pk_bs, pk_letE, pk_bd2E, pk_bd3E, if_true, if_false, eq_self, not_true_eq_false, not_false_eq_true, true_and, and_true, Nat.not_lt_zero, Nat.zero_le, Nat.reduceEqDiff, Nat.reduceLT, Nat.reduceLeDiff, pk_ck, g27]
    · simp (disch := omega) only [pk_rI_same, pk_rI_ne, pk_rI_wL, pk_rL_wI, pk_rL_same, pk_rL_ne, pk_ckT, pk_bs, pk_letE, pk_bd2E, pk_bd3E, if_true, if_false, eq_self, not_true_eq_false, not_false_eq_true, true_and, and_true, Nat.not_lt_zero, Nat.zero_le, Nat.reduceEqDiff, Nat.reduceLT, Nat.reduceLeDiff, pk_ck, u1, u2]
    · simp (disch := omega) only [pk_rI_same, pk_rI_ne, pk_rI_wL, pk_rL_wI, pk_rL_same, pk_rL_ne, pk_ckT, pk_bs, pk_letE, pk_bd2E, pk_bd3E, if_true, if_false, eq_self, not_true_eq_false, not_false_eq_true, true_and, and_true, Nat.not_lt_zero, Nat.zero_le, Nat.reduceEqDiff, Nat.reduceLT, Nat.reduceLeDiff, pk_ck, g29]
      unfold tq_v
      rw [if_neg (by omega)]
    · simp (disch := omega) only [pk_rI_same, pk_rI_ne, pk_rI_wL, pk_rL_wI, pk_rL_same, pk_rL_ne, pk_ckT, pk_bs, pk_letE, pk_bd2E, pk_bd3E, if_true, if_false, eq_self, not_true_eq_false, not_false_eq_true, true_and, and_true, Nat.not_lt_zero, Nat.zero_le, Nat.reduceEqDiff, Nat.reduceLT, Nat.reduceLeDiff, pk_ck, g30]
    · simp (disch := omega) only [pk_rI_same, pk_rI_ne, pk_rI_wL, pk_rL_wI, pk_rL_same, pk_rL_ne, g31]
      unfold tq_hs
      rw [if_neg (by omega)]
theorem pr_goes (hN : 1000 ≤ N) (hS : pk_Rf Y r) (hx : pk_txR r V T L) (hp : p ≤ L) (h25 : bk_rI V r 25 = nI p) : ∃ V', q_X12_goes N Y V r = some V' ∧ pk_frT r V V' ∧ pk_tkR r V' T L p := by
  have hL := hx.2.2.1
  obtain ⟨s1, s2, s3, s4⟩ := tq_s_p (T := T) hL hp
  refine loop_i (σ := bk_Val) (fun fu j V1 => ∃ V', q_X12_goes_0 N Y fu V1 r = some V' ∧ pk_frT r V V' ∧ pk_tkR r V' T L p) (fun j V1 => p ≤ j ∧ pk_frT r V V1 ∧ bk_rI V1 r 25 = nI j) (tq_s T L p) ?_ ?_ N p V (by omega) (by omega) ⟨Nat.le_refl _, pk_frT.rf, h25⟩
  · intro fu V1 hV
    obtain ⟨g0, g1, g2⟩ := hV
    obtain ⟨V', e1, e2, e3⟩ := pr_g50 (N := N) hN hS (hx.fr g1) hp g2
    refine ⟨V', ?_, g1.tr e2, e3⟩
    have hb := pr_byteAt (N := N) (j := tq_s T L p) hS (hx.fr g1) (by omega)
    have hc := tq_b_lt (L := L) (j := tq_s T L p) hx.2.1
    rw [q_X12_goes_0]
    simp (disch := omega) only [hS, pk_ckT, pk_bs, pk_letE, pk_bd2E, pk_bd3E, if_true, if_false, eq_self, not_true_eq_false, not_false_eq_true, true_and, and_true, Nat.not_lt_zero, Nat.zero_le, Nat.reduceEqDiff, Nat.reduceLT, Nat.reduceLeDiff, pk_ck, (hx.fr g1).2.2.2, g2, nI_leI, hb, pk_lit, nI_eq]
    by_cases c : L ≤ tq_s T L p
    · rw [if_pos c]; exact e1
    · have hbs : tq_b T L (tq_s T L p) = T (tq_s T L p) := if_pos (by omega)
      rw [if_neg c, hbs, if_neg (fun q => s4 ⟨by omega, Or.inl q⟩), if_neg (fun q => s4 ⟨by omega, Or.inr q⟩)]
      exact e1
  · intro fu j V1 hj hV ih
    obtain ⟨g0, g1, g2⟩ := hV
    have s3j := s3 j g0 hj
    have hb := pr_byteAt (N := N) (j := j) hS (hx.fr g1) (by omega)
    have hbs : tq_b T L j = T j := if_pos s3j.1
    have hc := hx.2.1 j
    rw [hbs] at hb
    have ih' := ih (bk_wI V1 r 25 (nI (j + 1))) ⟨by omega, g1.tr (pk_frT.wI (by omega)), by rw [pk_rI_same, if_pos rfl]⟩
    rw [q_X12_goes_0]
    simp (disch := omega) only [hS, pk_ckT, pk_bs, pk_letE, pk_bd2E, pk_bd3E, if_true, if_false, eq_self, not_true_eq_false, not_false_eq_true, true_and, and_true, Nat.not_lt_zero, Nat.zero_le, Nat.reduceEqDiff, Nat.reduceLT, Nat.reduceLeDiff, pk_ck, (hx.fr g1).2.2.2, g2, nI_leI, hb, pk_lit, nI_eq, q_X12_goes_37, nI_add]
    rw [if_neg (by omega)]
    by_cases c : T j = 32
    · rw [if_pos c]; exact ih'
    · rw [if_neg c, if_pos (s3j.2.resolve_left c)]; exact ih'
/-! known words -/
theorem pr_let0 : ∀ k, k < 35 → q_X12_letters 0 (fun _ => (0, 0), fun _ _ => none, 0) (fun _ _ => 0, fun _ _ => 0) (nI k) = some (lN (tq_H.getD k 0)) := by decide +kernel
theorem pr_let (hk : k < 35) : q_X12_letters N Y V (nI k) = some (lN (tq_H.getD k 0)) := (show q_X12_letters N Y V (nI k) = q_X12_letters 0 (fun _ => (0, 0), fun _ _ => none, 0) (fun _ _ => 0, fun _ _ => 0) (nI k) from rfl).trans (pr_let0 k hk)
def tq_wI (k : Nat) : Int32 := if k < 35 then nI k else -nI 1
theorem tq_Hb : ∀ k, k < 35 → tq_H.getD k 0 < 2 ^ 62 := by decide +kernel
theorem tq_hs_lt (hL : L ≤ 700) (hp : p ≤ L) : tq_hs T L p < 2 ^ 62 := by
  unfold tq_hs
  by_cases c : tq_k T L p = 1
  · rw [if_pos c]
    have hlt := tq_lt (T := T) hL hp c
    have h1 := tq_hd_lt (a := fun i => T (tq_s T L p + i) - 96) (n := tq_e T L p - tq_s T L p) (fun i hi => by have := hlt i hi; show T (tq_s T L p + i) - 96 < 32; omega) (min (tq_e T L p - tq_s T L p) 8) (by omega)
    have h2 : 32 ^ (min (tq_e T L p - tq_s T L p) 8) ≤ 32 ^ 8 := Nat.pow_le_pow_right (by omega) (by omega)
    omega
  · rw [if_neg c]
    omega
theorem pr_known (hN : 1000 ≤ N) (hS : pk_Rf Y r) (hL : L ≤ 700) (hp : p ≤ L) (h : pk_tkR r V T L p) : q_X12_knownWord N Y V r = some (tq_wI (tq_w T L p)) := by
  obtain ⟨h25, h26, h27, h28, h29, h30, h31⟩ := h
  obtain ⟨t1, t2, -, -⟩ := tq_e_p (T := T) hL hp
  have kb := tq_k_b (T := T) (L := L) (p := p)
  have hh := tq_hs_lt (T := T) hL hp
  unfold q_X12_knownWord
  simp (disch := omega) only [hS, pk_ckT, pk_bs, pk_letE, pk_bd2E, pk_bd3E, if_true, if_false, eq_self, not_true_eq_false, not_false_eq_true, true_and, and_true, Nat.not_lt_zero, Nat.zero_le, Nat.reduceEqDiff, Nat.reduceLT, Nat.reduceLeDiff, pk_ck, h26, h28, pk_lit, nI_eq, nI_leI]
  by_cases c1 : tq_k T L p = 1
  · rw [if_pos c1]
    by_cases c2 : tq_e T L p - tq_s T L p ≤ 8
    · rw [if_pos c2]
      have hw : tq_w T L p = sp_wh (fun k => decide (k < 35 ∧ tq_H.getD k 0 ≠ tq_hs T L p)) 36 0 := if_pos ⟨c1, c2⟩
      have hb : ∀ i, 35 ≤ i → decide (i < 35 ∧ tq_H.getD i 0 ≠ tq_hs T L p) = false := fun i hi => decide_eq_false (fun q => by omega)
      have k1 := of_decide_eq_false (sp_wh_end (cc := fun k => decide (k < 35 ∧ tq_H.getD k 0 ≠ tq_hs T L p)) hb 36 0 (by omega))
      have k2 := fun i h => of_decide_eq_true (sp_wh_all (cc := fun k => decide (k < 35 ∧ tq_H.getD k 0 ≠ tq_hs T L p)) 36 0 i (by omega) h)
      rw [← hw] at k1 k2
      have wb := tq_w_b (T := T) (L := L) (p := p)
      refine loop_i (σ := Unit) (fun fu j _ => q_X12_knownWord_21 N Y fu V r (nI j) = some (tq_wI (tq_w T L p))) (fun _ _ => True) (tq_w T L p) ?_ ?_ N 0 () (by omega) (by omega) trivial
      · intro fu _ _
        rw [q_X12_knownWord_21]
        unfold tq_wI
        by_cases c3 : tq_w T L p < 35
        · have hq : tq_H.getD (tq_w T L p) 0 = tq_hs T L p := Classical.byContradiction (fun q => k1 ⟨c3, q⟩)
          have := tq_Hb _ c3
          rw [if_neg (show ¬ (35 : Int32) ≤ nI (tq_w T L p) from (show ¬ nI 35 ≤ nI (tq_w T L p) by rw [nI_leI (by omega) (by omega)]; omega)), pr_let c3, pk_bs, pk_ck hS.1, h31, if_pos (show lg_cmp (lN (tq_H.getD (tq_w T L p) 0)) (lN (tq_hs T L p)) = (0 : Int32) from (show lg_cmp (lN (tq_H.getD (tq_w T L p) 0)) (lN (tq_hs T L p)) = nI 0 by rw [pk_cmpE, hq])), if_pos c3]
        · rw [if_pos (show (35 : Int32) ≤ nI (tq_w T L p) from (show nI 35 ≤ nI (tq_w T L p) from nI_le (by omega) (by omega))), if_neg c3]
          rfl
      · intro fu j _ hj _ ih
        have hq := k2 j hj
        have := tq_Hb j hq.1
        rw [q_X12_knownWord_21, if_neg (show ¬ (35 : Int32) ≤ nI j from (show ¬ nI 35 ≤ nI j by rw [nI_leI (by omega) (by omega)]; omega)), pr_let hq.1, pk_bs, pk_ck hS.1, h31, if_neg (show ¬ lg_cmp (lN (tq_H.getD j 0)) (lN (tq_hs T L p)) = (0 : Int32) from (show ¬ lg_cmp (lN (tq_H.getD j 0)) (lN (tq_hs T L p)) = nI 0 by rw [pk_cmpE, pk_lEQ (by omega) (by omega)]; exact hq.2)), show nI j + 1 = nI (j + 1) from nI_add j 1]
        exact ih () trivial
    · rw [if_neg c2, show tq_w T L p = 35 from if_neg (fun q => c2 q.2)]
      rfl
  · rw [if_neg c1, show tq_w T L p = 35 from if_neg (fun q => c1 q.1)]
    rfl
end
