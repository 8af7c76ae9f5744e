/-! the reference's small words -/
section
variable {N z t u s tl r a b c d k n j h m l p q q0 md wa s' i f e gg v S L g lo hi : Nat} {Y Y' : bk_Lay} {V V' V2 W : bk_Val} {x y x1 x2 x3 x4 x5 ee : Int32} {w1 w2 : Int64} {D : Nat → Nat → Nat} {P : Nat → List Nat} {T T' w R G In : Nat → Nat} {cc : Nat → Bool}
theorem pk_frU.rf : pk_frU r V V := ⟨fun _ _ => rfl, fun _ _ => rfl, fun _ _ => rfl, fun _ _ => rfl⟩
theorem pk_frU.tr (h : pk_frU r V V') (h2 : pk_frU r V' V2) : pk_frU r V V2 := ⟨fun a q => (h2.1 a q).trans (h.1 a q), fun k q => (h2.2.1 k q).trans (h.2.1 k q), fun a q => (h2.2.2.1 a q).trans (h.2.2.1 a q), fun k q => (h2.2.2.2 k q).trans (h.2.2.2 k q)⟩
theorem pk_frT.toU (h : pk_frT r V V') : pk_frU r V V' := ⟨h.1, fun k q => h.2.1 k (by omega), h.2.2.1, h.2.2.2⟩
theorem pk_frU.wI (hk : k = 21 ∨ k = 22) : pk_frU r V (bk_wI V r k x) := ⟨fun _ q => pk_rowI q, fun j q => pk_slot (by omega), fun _ _ => rfl, fun _ _ => rfl⟩
/-- the reference goes on -/
theorem pr_goesP (hN : 1000 ≤ N) (hS : pk_Rf Y r) (h : pk_PR r V T L p) : ∃ V', q_X12_goes N Y V r = some V' ∧ pk_frT r V V' ∧ pk_PR r V' T L (tq_e T L p) := by
  obtain ⟨h1, h2, h3, h4⟩ := h
  obtain ⟨V', e1, e2, e3⟩ := pr_goes (N := N) hN hS h1 (tq_e_le h1.2.2.1 h3) h2.1
  exact ⟨V', e1, e2, h1.fr e2, e3, tq_e_le h1.2.2.1 h3, ⟨(e2.2.1 21 (by omega)).trans h4.1, (e2.2.1 22 (by omega)).trans h4.2⟩⟩
theorem pr_goodY (hS : pk_Rf Y r) (h : pk_gd r V) : q_X12_isGood N Y V r = some (nI 1) := by
  unfold q_X12_isGood
  rw [pk_ck hS.1, h.1, if_pos (show nI 0 = (0 : Int32) from rfl)]
  rfl
theorem pr_goodN (hS : pk_Rf Y r) (h : pk_FR r V k e) : q_X12_isGood N Y V r = some (nI 0) := by
  have := h.2.2
  unfold q_X12_isGood
  rw [pk_ck hS.1, h.1, if_neg (show ¬ nI k = (0 : Int32) from (show ¬ nI k = nI 0 by rw [nI_eq (by omega) (by omega)]; omega))]
  rfl
theorem pr_wrongY (hS : pk_Rf Y r) (h : pk_PR r V T L p) (hk : 0 < k ∧ k < 10) : ∃ V', q_X12_wrong N Y V r (nI k) = some V' ∧ pk_frU r V V' ∧ pk_FR r V' k (tq_s T L p) ∧ pk_tkR r V' T L p ∧ pk_txR r V' T L := by
  obtain ⟨h1, ⟨a1, a2, a3, a4, a5, a6, a7⟩, h3, h4⟩ := h
  refine ⟨bk_wI (bk_wI V r 21 (nI k)) r 22 (nI (tq_s T L p)), ?_, (pk_frU.wI (Or.inl rfl)).tr (pk_frU.wI (Or.inr rfl)), ⟨?_, ?_, hk⟩, ⟨?_, ?_, ?_, ?_, ?_, ?_, a7⟩, fun j hj => ?_, h1.2.1, h1.2.2.1, ?_⟩
  · unfold q_X12_wrong
    rw [pk_ck hS.1, h4.1, if_pos (show nI 0 = (0 : Int32) from rfl), pk_letE, show bk_rI (bk_wI V r 21 (nI k)) r 27 = nI (tq_s T L p) from by rw [pk_rI_same, if_neg (by omega)]; exact a3, pk_letE]
  · simp (disch := omega) only [pk_rI_same, pk_rI_ne, pk_rI_wL, pk_rL_wI, pk_rL_same, pk_rL_ne, pk_ckT, pk_bs, pk_letE, pk_bd2E, pk_bd3E, if_true, if_false, eq_self, not_true_eq_false, not_false_eq_true, true_and, and_true, Nat.not_lt_zero, Nat.zero_le, Nat.reduceEqDiff, Nat.reduceLT, Nat.reduceLeDiff, pk_ck]
  · simp (disch := omega) only [pk_rI_same, pk_rI_ne, pk_rI_wL, pk_rL_wI, pk_rL_same, pk_rL_ne, pk_ckT, pk_bs, pk_letE, pk_bd2E, pk_bd3E, if_true, if_false, eq_self, not_true_eq_false, not_false_eq_true, true_and, and_true, Nat.not_lt_zero, Nat.zero_le, Nat.reduceEqDiff, Nat.reduceLT, Nat.reduceLeDiff, pk_ck]
  · simp (disch := omega) only [pk_rI_same, pk_rI_ne, pk_rI_wL, pk_rL_wI, pk_rL_same, pk_rL_ne, pk_ckT, pk_bs, pk_letE, pk_bd2E, pk_bd3E, if_true, if_false, eq_self, not_true_eq_false, not_false_eq_true, true_and, and_true, Nat.not_lt_zero, Nat.zero_le, Nat.reduceEqDiff, Nat.reduceLT, Nat.reduceLeDiff, pk_ck, a1]
  · simp (disch := omega) only [pk_rI_same, pk_rI_ne, pk_rI_wL, pk_rL_wI, pk_rL_same, pk_rL_ne, pk_ckT, pk_bs, pk_letE, pk_bd2E, pk_bd3E, if_true, if_false, eq_self, not_true_eq_false, not_false_eq_true, true_and, and_true, Nat.not_lt_zero, Nat.zero_le, Nat.reduceEqDiff, Nat.reduceLT, Nat.reduceLeDiff, pk_ck, a2]
  · simp (disch := omega) only [pk_rI_same, pk_rI_ne, pk_rI_wL, pk_rL_wI, pk_rL_same, pk_rL_ne, pk_ckT, pk_bs, pk_letE, pk_bd2E, pk_bd3E, if_true, if_false, eq_self, not_true_eq_false, not_false_eq_true, true_and, and_true, Nat.not_lt_zero, Nat.zero_le, Nat.reduceEqDiff, Nat.reduceLT, Nat.reduceLeDiff, pk_ck, a3]
  · simp (disch := omega) only [pk_rI_same, pk_rI_ne, pk_rI_wL, pk_rL_wI, pk_rL_same, pk_rL_ne, pk_ckT, pk_bs, pk_letE, pk_bd2E, pk_bd3E, if_true, if_false, eq_self, not_true_eq_false, not_false_eq_true, true_and, and_true, Nat.not_lt_zero, Nat.zero_le, Nat.reduceEqDiff, Nat.reduceLT, Nat.reduceLeDiff, pk_ck, a4]
  · simp (disch := omega) only [pk_rI_same, pk_rI_ne, pk_rI_wL, pk_rL_wI, pk_rL_same, pk_rL_ne, pk_ckT, pk_bs, pk_letE, pk_bd2E, pk_bd3E, if_true, if_false, eq_self, not_true_eq_false, not_false_eq_true, true_and, and_true, Nat.not_lt_zero, Nat.zero_le, Nat.reduceEqDiff, Nat.reduceLT, Nat.reduceLeDiff, pk_ck, a5]
  · simp (disch := omega) only [pk_rI_same, pk_rI_ne, pk_rI_wL, pk_rL_wI, pk_rL_same, pk_rL_ne, pk_ckT, pk_bs, pk_letE, pk_bd2E, pk_bd3E, if_true, if_false, eq_self, not_true_eq_false, not_false_eq_true, true_and, and_true, Nat.not_lt_zero, Nat.zero_le, Nat.reduceEqDiff, Nat.reduceLT, Nat.reduceLeDiff, pk_ck, a6]
  · rw [pk_rI_ne (by omega), pk_rI_ne (by omega)]
    exact h1.1 j hj
  · simp (disch := omega) only [pk_rI_same, pk_rI_ne, pk_rI_wL, pk_rL_wI, pk_rL_same, pk_rL_ne, pk_ckT, pk_bs, pk_letE, pk_bd2E, pk_bd3E, if_true, if_false, eq_self, not_true_eq_false, not_false_eq_true, true_and, and_true, Nat.not_lt_zero, Nat.zero_le, Nat.reduceEqDiff, Nat.reduceLT, Nat.reduceLeDiff, pk_ck, h1.2.2.2]
theorem pr_wrongN (hS : pk_Rf Y r) (h : pk_FR r V k e) : q_X12_wrong N Y V r x = some V := by
  have := h.2.2
  unfold q_X12_wrong
  rw [pk_ck hS.1, h.1, if_neg (show ¬ nI k = (0 : Int32) from (show ¬ nI k = nI 0 by rw [nI_eq (by omega) (by omega)]; omega))]
theorem pr_isSign (hS : pk_Rf Y r) (hL : L ≤ 700) (hp : p ≤ L) (hT : ∀ j, T j < 256) (h : pk_tkR r V T L p) (hc : c < 128) : q_X12_isSign N Y V r (nI c) = some (pk_B (tq_k T L p = 3 ∧ T (tq_s T L p) = c)) := by
  obtain ⟨a1, a2, a3, a4, a5, a6, a7⟩ := h
  have kb := tq_k_b (T := T) (L := L) (p := p)
  have hb := tq_b_lt (L := L) (j := tq_s T L p) hT
  unfold q_X12_isSign
  simp (disch := omega) only [hS, pk_ckT, pk_bs, pk_letE, pk_bd2E, pk_bd3E, if_true, if_false, eq_self, not_true_eq_false, not_false_eq_true, true_and, and_true, Nat.not_lt_zero, Nat.zero_le, Nat.reduceEqDiff, Nat.reduceLT, Nat.reduceLeDiff, pk_ck, a2, a6, pk_lit, nI_eq]
  by_cases c1 : tq_k T L p = 3
  · have hw := ((tq_e_p (T := T) hL hp).2.2.1 (by omega)).1
    rw [if_pos c1, show tq_b T L (tq_s T L p) = T (tq_s T L p) from if_pos hw]
    by_cases c2 : T (tq_s T L p) = c
    · rw [if_pos c2, pk_Bt ⟨c1, c2⟩]
    · rw [if_neg c2, pk_Bf (fun q => c2 q.2)]
  · rw [if_neg c1, pk_Bf (fun q => c1 q.1)]
theorem pr_needY (hN : 1000 ≤ N) (hS : pk_Rf Y r) (h : pk_PR r V T L p) : ∃ V', q_X12_need N Y V r (nI 1) = some V' ∧ pk_frT r V V' ∧ pk_PR r V' T L (tq_e T L p) := by
  obtain ⟨V', e1, e2, e3⟩ := pr_goesP (N := N) hN hS h
  refine ⟨V', ?_, e2, e3⟩
  unfold q_X12_need
  rw [pk_ck hS.1, pr_goodY hS h.2.2.2, pk_bs, if_neg (show ¬ nI 1 = (0 : Int32) by decide), if_neg (show ¬ nI 1 = (0 : Int32) by decide), e1, pk_bs]
theorem pr_needN (hS : pk_Rf Y r) (h : pk_PR r V T L p) : ∃ V', q_X12_need N Y V r (nI 0) = some V' ∧ pk_frU r V V' ∧ pk_FR r V' 1 (tq_s T L p) ∧ pk_tkR r V' T L p ∧ pk_txR r V' T L := by
  obtain ⟨V', e1, e2⟩ := pr_wrongY (N := N) (k := 1) hS h (by omega)
  refine ⟨V', ?_, e2⟩
  unfold q_X12_need
  rw [pk_ck hS.1, pr_goodY hS h.2.2.2, pk_bs, if_neg (show ¬ nI 1 = (0 : Int32) by decide), if_pos (show nI 0 = (0 : Int32) from rfl), show q_X12_wrong N Y V r 1 = some V' from e1, pk_bs]
theorem pr_needF (hS : pk_Rf Y r) (h : pk_FR r V k e) : q_X12_need N Y V r x = some V := by
  unfold q_X12_need
  rw [pk_ck hS.1, pr_goodN hS h, pk_bs, if_pos (show nI 0 = (0 : Int32) from rfl)]
theorem pr_numF (hS : pk_Rf Y r) (h : pk_FR r V k e) : q_X12_number N Y V r x y = some (nI 0, V) := by
  unfold q_X12_number
  rw [pk_ck hS.1, pr_goodN hS h, pk_bs, if_pos (show nI 0 = (0 : Int32) from rfl)]
  rfl
theorem pr_num (hN : 1000 ≤ N) (hS : pk_Rf Y r) (h : pk_PR r V T L p) (hlo : lo < 10000) (hhi : hi < 10000) : (tq_no T L p lo hi = 0 → ∃ V', q_X12_number N Y V r (nI lo) (nI hi) = some (nI (tq_v T L p), V') ∧ pk_frT r V V' ∧ pk_PR r V' T L (tq_e T L p)) ∧ (tq_no T L p lo hi ≠ 0 → ∃ V', q_X12_number N Y V r (nI lo) (nI hi) = some (nI (tq_v T L p), V') ∧ pk_frU r V V' ∧ pk_FR r V' (tq_no T L p lo hi) (tq_s T L p)) := by
  have hL := h.1.2.2.1
  have hp := h.2.2.1
  have kb := tq_k_b (T := T) (L := L) (p := p)
  obtain ⟨t1, t2, -, -⟩ := tq_e_p (T := T) hL hp
  have hv := tq_v_lt (T := T) hL hp
  have e54 : ∀ k, 0 < k → k < 10 → ∃ V', (q_X12_wrong N Y V r (nI k)).bind (fun V_8 => q_X12_number_54 N Y V_8 r) = some (nI (tq_v T L p), V') ∧ pk_frU r V V' ∧ pk_FR r V' k (tq_s T L p) := by
    intro k h1 h2
    obtain ⟨V', e1, e2, e3, e4, e5⟩ := pr_wrongY (N := N) (k := k) hS h ⟨h1, h2⟩
    refine ⟨V', ?_, e2, e3⟩
    rw [e1, pk_bs]
    unfold q_X12_number_54
    rw [pk_ck hS.1, pr_goodN hS e3, pk_bs, if_pos (show nI 0 = (0 : Int32) from rfl), e4.2.2.2.2.1]
  have e49 : ∃ V', q_X12_number_49 N Y V r = some (nI (tq_v T L p), V') ∧ pk_frU r V V' ∧ pk_FR r V' 2 (tq_s T L p) := by
    unfold q_X12_number_49
    rw [pk_ck hS.1]
    exact e54 2 (by omega) (by omega)
  have e0 : q_X12_number N Y V r (nI lo) (nI hi) = if tq_k T L p = 2 then (if 4 < tq_e T L p - tq_s T L p then q_X12_number_49 N Y V r else if tq_v T L p < lo then q_X12_number_49 N Y V r else if tq_v T L p ≤ hi then q_X12_number_54 N Y V r else q_X12_number_49 N Y V r) else (q_X12_wrong N Y V r (nI 1)).bind (fun V_17 => q_X12_number_54 N Y V_17 r) := by
    unfold q_X12_number
    rw [pk_ck hS.1, pr_goodY hS h.2.2.2, pk_bs, if_neg (show ¬ nI 1 = (0 : Int32) by decide)]
    obtain ⟨a1, a2, a3, a4, a5, a6, a7⟩ := h.2.1
    simp (disch := omega) only [a2, a4, a5, pk_lit, nI_eq, nI_ltI, nI_leI]
  rw [e0]
  by_cases c1 : tq_k T L p = 2
  · rw [if_pos c1]
    by_cases c : tq_e T L p - tq_s T L p ≤ 4 ∧ lo ≤ tq_v T L p ∧ tq_v T L p ≤ hi
    · have hno : tq_no T L p lo hi = 0 := by
        unfold tq_no
        rw [if_pos c1, if_pos c]
      rw [hno, if_neg (show ¬ 4 < tq_e T L p - tq_s T L p by omega), if_neg (show ¬ tq_v T L p < lo by omega), if_pos c.2.2]
      refine ⟨fun _ => ?_, fun q => absurd rfl q⟩
      obtain ⟨V', e1, e2, e3⟩ := pr_goesP (N := N) hN hS h
      refine ⟨V', ?_, e2, e3⟩
      unfold q_X12_number_54
      rw [pk_ck hS.1, pr_goodY hS h.2.2.2, pk_bs, if_neg (show ¬ nI 1 = (0 : Int32) by decide), e1, pk_bs, h.2.1.2.2.2.2.1]
    · have hno : tq_no T L p lo hi = 2 := by
        unfold tq_no
        rw [if_pos c1, if_neg c]
      rw [hno]
      refine ⟨fun q => absurd q (by omega), fun _ => ?_⟩
      by_cases d1 : 4 < tq_e T L p - tq_s T L p
      · rw [if_pos d1]; exact e49
      rw [if_neg d1]
      by_cases d2 : tq_v T L p < lo
      · rw [if_pos d2]; exact e49
      rw [if_neg d2, if_neg (by omega)]
      exact e49
  · have hno : tq_no T L p lo hi = 1 := by
      unfold tq_no
      rw [if_neg c1]
    rw [if_neg c1, hno]
    exact ⟨fun q => absurd q (by omega), fun _ => e54 1 (by omega) (by omega)⟩
end
