/-! the lines: riders -/
section
variable {N z t u s r a b c d k n j h m l p q q0 md wa s' i f gg v S L g lo hi w e : Nat} {Y Y2 Y' : bk_Lay} {V V' V1 V2 V8 V24 V29 V36 V42 : bk_Val} {x y x1 x2 x3 x4 x5 ee : Int32} {T T' R G In : Nat → Nat} {D D' : Nat → Nat → Nat} {P P' : Nat → List Nat} {B B' : Nat → Bool} {K : List Nat} {o : pk_O} {X : Option (Int32 × bk_Val)} {XR : Option bk_Val}
theorem pc_riderE (H : pk_cL N z u Y) (h : pk_LC z u V T L p D P B) (hl : D 10 0 ≤ 8) : q_X8_readRider N Y V (z + 54) = if D 10 0 < 8 then (q_X9_step N Y V (z + 55)).bind (fun V_25 => bk_bd2 (q_X8_readNumber N Y V_25 (z + 54) (nI 0) (nI 39)) fun r_28 V_29 => if r_28 = nI 0 then some (nI 0, V_29) else bk_bd2 (q_X8_readNumber N Y V_29 (z + 54) (nI 0) (nI 39)) fun r_31 V_32 => if r_31 = nI 0 then some (nI 0, V_32) else bk_bd2 (q_X8_readNumber N Y V_32 (z + 54) (nI 0) (nI 23)) fun r_34 V_35 => if r_34 = nI 0 then some (nI 0, V_35) else (q_X9_isWord N Y V_35 (z + 55) 34).bind fun r_37 => if r_37 = nI 0 then (q_X9_isWord N Y V_35 (z + 55) 35).bind fun r_39 => if r_39 = nI 0 then bk_bd2 (q_X8_refuse N Y V_35 (z + 54) (nI 1)) (fun r_20 V_21 => bk_ck (r_20 = nI 0 ∨ r_20 = nI 1) (some (r_20, V_21))) else q_X8_readRider_106 N Y V_35 (z + 54) (bk_rI V_29 (z + 54) 3) (bk_rI V_32 (z + 54) 3) r_37 else q_X8_readRider_106 N Y V_35 (z + 54) (bk_rI V_29 (z + 54) 3) (bk_rI V_32 (z + 54) 3) r_37) else bk_bd2 (q_X8_refuse N Y V (z + 54) (nI 2)) (fun r_20 V_21 => bk_ck (r_20 = nI 0 ∨ r_20 = nI 1) (some (r_20, V_21))) := by
  obtain ⟨hN, hM, hS, hi, u1, u2⟩ := H
  have e1 : bk_rI V (u + 10) 4 = nI (D 10 0) := (pk_CT_iff.mp h.2.1).2.2.2.2.1.1
  unfold q_X8_readRider
  simp (disch := omega) only [hM, hS, hi, pk_ckT, pk_bs, pk_letE, pk_bd2E, pk_bd3E, if_true, if_false, eq_self, not_true_eq_false, not_false_eq_true, true_and, and_true, Nat.not_lt_zero, Nat.zero_le, Nat.reduceEqDiff, Nat.reduceLT, Nat.reduceLeDiff, pk_ck, pk_lit, e1, nI_ltI]
theorem pc_106 (H : pk_cL N z u Y) (g1 : q_X9_step N Y V (z + 55) = some V1) (h3 : bk_rI V1 (z + 54) 3 = x) : q_X8_readRider_106 N Y V (z + 54) x1 x2 x3 = (q_X2_add N Y V1 (u + 10) x1 x2 x x3).bind fun V_8 => some (nI 1, V_8) := by
  obtain ⟨hN, hM, hS, hi, u1, u2⟩ := H
  unfold q_X8_readRider_106
  simp only [hM, hS, hi, pk_ckT, pk_bs, pk_letE, pk_bd2E, pk_bd3E, if_true, if_false, eq_self, not_true_eq_false, not_false_eq_true, true_and, and_true, Nat.not_lt_zero, Nat.zero_le, Nat.reduceEqDiff, Nat.reduceLT, Nat.reduceLeDiff, pk_ck, pk_lit, g1, h3]
theorem pk_min (ha : a < 2 ^ 31) (hb : b < 2 ^ 31) : q_J9_min_7cf53 N Y V (nI a) (nI b) = some (nI (min a b)) := by
  unfold q_J9_min_7cf53
  by_cases g : b < a
  · rw [if_pos (by rw [nI_ltI hb ha]; exact g), Nat.min_eq_right (by omega)]
  · rw [if_neg (by rw [nI_ltI hb ha]; exact g), Nat.min_eq_left (by omega)]
theorem pk_max (ha : a < 2 ^ 31) (hb : b < 2 ^ 31) : q_J9_max_7cf53 N Y V (nI a) (nI b) = some (nI (max a b)) := by
  unfold q_J9_max_7cf53
  by_cases g : a < b
  · rw [if_pos (by rw [nI_ltI ha hb]; exact g), Nat.max_eq_right (by omega)]
  · rw [if_neg (by rw [nI_ltI ha hb]; exact g), Nat.max_eq_left (by omega)]
theorem pc_radd (H : pk_cL N z u Y) (h : pk_LC z u V T L p D P B) (hl : D 10 0 < 8) (hd : d < 2) (ha : a < 10000) (hb : b < 10000) : ∃ V', q_X2_add N Y V (u + 10) (nI a) (nI b) (nI c) (nI d) = some V' ∧ pk_fW z u V V' ∧ pk_LC z u V' T L p (tq_Da D 10 11 16 (fun i => if i = 11 then min a b else if i = 12 then max a b else if i = 13 then c else if i = 14 then d else if i = 15 then a else b)) P B := by
  obtain ⟨hN, hM, hS, hi, u1, u2⟩ := H
  have e1 : bk_rI V (u + 10) 4 = nI (D 10 0) := (pk_CT_iff.mp h.2.1).2.2.2.2.1.1
  refine ⟨bk_wI (bk_wI (bk_wI (bk_wI (bk_wI V (u + 11) (D 10 0) (nI (min a b))) (u + 12) (D 10 0) (nI (max a b))) (u + 13) (D 10 0) (nI c)) (u + 14) (D 10 0) (nI d)) (u + 10) 4 (nI (D 10 0 + 1)), ?_, ((((pk_fW.wI (by omega)).tr (pk_fW.wI (by omega))).tr (pk_fW.wI (by omega))).tr (pk_fW.wI (by omega))).tr (pk_fW.wI (by omega)), h.rows u1 u2 (fun x q => by rw [pk_rowI (by omega), pk_rowI (by omega), pk_rowI (by omega), pk_rowI (by omega), pk_rowI (by omega)]) (h.2.1.w7 (fun a q1 q2 q3 q4 => by rw [pk_rowI (by omega), pk_rowI (by omega), pk_rowI (by omega), pk_rowI (by omega), pk_rowI (by omega)]) (by rw [pk_rI_same, if_pos rfl]) (fun k => ?_) (fun k => ?_) (fun k => ?_) (fun k => ?_))⟩
  · unfold q_X2_add
    have g1 : bk_rI (bk_wI V (u + 11) (D 10 0) (nI (min a b))) (u + 10) 4 = nI (D 10 0) := (pk_rI_ne (by omega)).trans e1
    have g2 : bk_rI (bk_wI (bk_wI V (u + 11) (D 10 0) (nI (min a b))) (u + 12) (D 10 0) (nI (max a b))) (u + 10) 4 = nI (D 10 0) := (pk_rI_ne (by omega)).trans g1
    have g3 : bk_rI (bk_wI (bk_wI (bk_wI V (u + 11) (D 10 0) (nI (min a b))) (u + 12) (D 10 0) (nI (max a b))) (u + 13) (D 10 0) (nI c)) (u + 10) 4 = nI (D 10 0) := (pk_rI_ne (by omega)).trans g2
    have g4 : bk_rI (bk_wI (bk_wI (bk_wI (bk_wI V (u + 11) (D 10 0) (nI (min a b))) (u + 12) (D 10 0) (nI (max a b))) (u + 13) (D 10 0) (nI c)) (u + 14) (D 10 0) (nI d)) (u + 10) 4 = nI (D 10 0) := (pk_rI_ne (by omega)).trans g3
    have g5 : nI d = nI 0 ∨ nI d = nI 1 := by
      rcases (show d = 0 ∨ d = 1 by omega) with q | q <;> subst q
      · exact Or.inl rfl
      · exact Or.inr rfl
    rw [e1]
    simp (disch := omega) only [hS, pk_ckT, pk_bs, pk_letE, pk_bd2E, pk_bd3E, if_true, if_false, eq_self, not_true_eq_false, not_false_eq_true, true_and, and_true, Nat.not_lt_zero, Nat.zero_le, Nat.reduceEqDiff, Nat.reduceLT, Nat.reduceLeDiff, pk_ck, pk_lit, nI_leI, nI_clamp, pk_inE, pk_min, pk_max, g1, g2, g3, g4, g5, nI_add]
    rw [if_neg (by omega)]
  · rw [pk_rI_ne (by omega), pk_rI_ne (by omega), pk_rI_ne (by omega), pk_rI_ne (by omega), pk_rI_same]; rfl
  · rw [pk_rI_ne (by omega), pk_rI_ne (by omega), pk_rI_ne (by omega), pk_rI_same, pk_rI_ne (by omega)]; rfl
  · rw [pk_rI_ne (by omega), pk_rI_ne (by omega), pk_rI_same, pk_rI_ne (by omega), pk_rI_ne (by omega)]; rfl
  · rw [pk_rI_ne (by omega), pk_rI_same, pk_rI_ne (by omega), pk_rI_ne (by omega), pk_rI_ne (by omega)]; rfl
/-! the reference -/
theorem pr_131 (hS : pk_Rf Y r) (hn : n < 8) : q_X12_readsRider_131 N Y V r (r + 11) (nI (4 * n + 3)) x = (q_X12_isGood N Y (bk_wI V (r + 11) (4 * n + 3) x) r).bind fun r_6 => if r_6 = nI 0 then some (bk_wI V (r + 11) (4 * n + 3) x) else some (bk_wI (bk_wI V (r + 11) (4 * n + 3) x) r 42 (bk_rI (bk_wI V (r + 11) (4 * n + 3) x) r 42 + nI 1)) := by
  unfold q_X12_readsRider_131
  simp (disch := omega) only [hS, pk_ckT, pk_bs, pk_letE, pk_bd2E, pk_bd3E, if_true, if_false, eq_self, not_true_eq_false, not_false_eq_true, true_and, and_true, Nat.not_lt_zero, Nat.zero_le, Nat.reduceEqDiff, Nat.reduceLT, Nat.reduceLeDiff, pk_ck, pk_lit, nI_clamp, pk_inE]
theorem pr_110 (hS : pk_Rf Y r) (hn : n < 8) (h8 : q_X12_need N Y V r x = some V8) : q_X12_readsRider_110 N Y V r (nI (4 * n)) y r x = if y = nI 28 then q_X12_readsRider_131 N Y V8 r (r + 11) (nI (4 * n + 3)) (nI 1) else q_X12_readsRider_131 N Y V8 r (r + 11) (nI (4 * n + 3)) (nI 0) := by
  unfold q_X12_readsRider_110
  rw [pk_ck hS.1, h8, pk_bs]
  simp only [hS, pk_ckT, pk_bs, pk_letE, pk_bd2E, pk_bd3E, if_true, if_false, eq_self, not_true_eq_false, not_false_eq_true, true_and, and_true, Nat.not_lt_zero, Nat.zero_le, Nat.reduceEqDiff, Nat.reduceLT, Nat.reduceLeDiff, pk_ck, pk_lit, nI_add]
/-- after a fault the rider is none -/
theorem pr_91F (hS : pk_Rf Y r) (hn : n < 8) (hf : pk_FR r V k e) : q_X12_readsRider_91 N Y V r (nI (4 * n)) (-nI 1) = some (bk_wI V (r + 11) (4 * n + 3) (nI 0)) := by
  have f1 : pk_FR r (bk_wI V (r + 11) (4 * n + 3) (nI 0)) k e := hf.wr (by omega)
  unfold q_X12_readsRider_91
  rw [if_neg (show ¬ -nI 1 = (28 : Int32) by decide), if_neg (show ¬ -nI 1 = (29 : Int32) by decide), show q_X12_readsRider_110 N Y V r (nI (4 * n)) (-nI 1) r 0 = _ from pr_110 hS hn (pr_needF (x := nI 0) hS hf), if_neg (show ¬ -nI 1 = nI 28 by decide), pr_131 hS hn, pr_goodN hS f1, pk_bs, if_pos rfl]
theorem pr_riderE (hS : pk_Rf Y r) (hn : n < 8) (h0 : bk_rI V r 42 = nI n) (hg : pk_gd r V) (g1 : q_X12_goes N Y V r = some V24) (h42 : bk_rI V24 r 42 = nI n) (n1 : q_X12_number N Y V24 r (nI 0) (nI 39) = some (x1, V29)) (n2 : q_X12_number N Y (bk_wI V29 (r + 11) (4 * n) x1) r (nI 0) (nI 39) = some (x2, V36)) (n3 : q_X12_number N Y (bk_wI V36 (r + 11) (4 * n + 1) x2) r (nI 0) (nI 23) = some (x3, V42)) : q_X12_readsRider N Y V r = (q_X12_isGood N Y (bk_wI V42 (r + 11) (4 * n + 2) x3) r).bind fun r_47 => if r_47 = nI 0 then q_X12_readsRider_91 N Y (bk_wI V42 (r + 11) (4 * n + 2) x3) r (nI (4 * n)) (-nI 1) else (q_X12_knownWord N Y (bk_wI V42 (r + 11) (4 * n + 2) x3) r).bind fun r_49 => q_X12_readsRider_91 N Y (bk_wI V42 (r + 11) (4 * n + 2) x3) r (nI (4 * n)) r_49 := by
  unfold q_X12_readsRider
  rw [pk_ck hS.1, h0, if_neg (show ¬ nI n = (8 : Int32) from (show ¬ nI n = nI 8 by rw [nI_eq (by omega) (by omega)]; omega))]
  unfold q_X12_readsRider_14
  rw [pk_ck hS.1, pr_goodY hS hg, pk_bs, if_neg pk_n10, g1, pk_bs]
  simp (disch := omega) only [hS, pk_ckT, pk_bs, pk_letE, pk_bd2E, pk_bd3E, if_true, if_false, eq_self, not_true_eq_false, not_false_eq_true, true_and, and_true, Nat.not_lt_zero, Nat.zero_le, Nat.reduceEqDiff, Nat.reduceLT, Nat.reduceLeDiff, pk_ck, pk_lit, h42, pk_mul, nI_add, nI_clamp, pk_inE, n1, n2, n3]
/-- the reference's rider -/
theorem pr_rider (hN : 1000 ≤ N) (hS : pk_Rf Y r) (h : pk_LR r V T L p D P B) (hk : tq_k T L p ≠ 0) (hl : D 10 0 < 8) :
    (tq_no T L (tq_e T L p) 0 39 ≠ 0 → ∃ V', q_X12_readsRider N Y V r = some V' ∧ pk_frW r V V' ∧ pk_FR r V' (tq_no T L (tq_e T L p) 0 39) (tq_s T L (tq_e T L p))) ∧
    (tq_no T L (tq_e T L p) 0 39 = 0 → (tq_no T L (tq_e T L (tq_e T L p)) 0 39 ≠ 0 → ∃ V', q_X12_readsRider N Y V r = some V' ∧ pk_frW r V V' ∧ pk_FR r V' (tq_no T L (tq_e T L (tq_e T L p)) 0 39) (tq_s T L (tq_e T L (tq_e T L p)))) ∧
    (tq_no T L (tq_e T L (tq_e T L p)) 0 39 = 0 → (tq_no T L (tq_e T L (tq_e T L (tq_e T L p))) 0 23 ≠ 0 → ∃ V', q_X12_readsRider N Y V r = some V' ∧ pk_frW r V V' ∧ pk_FR r V' (tq_no T L (tq_e T L (tq_e T L (tq_e T L p))) 0 23) (tq_s T L (tq_e T L (tq_e T L (tq_e T L p))))) ∧
    (tq_no T L (tq_e T L (tq_e T L (tq_e T L p))) 0 23 = 0 → (tq_w T L (tq_e T L (tq_e T L (tq_e T L (tq_e T L p)))) ≠ 28 → tq_w T L (tq_e T L (tq_e T L (tq_e T L (tq_e T L p)))) ≠ 29 → ∃ V', q_X12_readsRider N Y V r = some V' ∧ pk_frW r V V' ∧ pk_FR r V' 1 (tq_s T L (tq_e T L (tq_e T L (tq_e T L (tq_e T L p)))))) ∧
    (tq_w T L (tq_e T L (tq_e T L (tq_e T L (tq_e T L p)))) = 28 ∨ tq_w T L (tq_e T L (tq_e T L (tq_e T L (tq_e T L p)))) = 29 → ∃ V', q_X12_readsRider N Y V r = some V' ∧ pk_frW r V V' ∧ pk_LR r V' T L (tq_e T L (tq_e T L (tq_e T L (tq_e T L (tq_e T L p))))) (tq_Da D 10 11 16 (fun i => if i = 11 then min (tq_v T L (tq_e T L p)) (tq_v T L (tq_e T L (tq_e T L p))) else if i = 12 then max (tq_v T L (tq_e T L p)) (tq_v T L (tq_e T L (tq_e T L p))) else if i = 13 then tq_v T L (tq_e T L (tq_e T L (tq_e T L p))) else if i = 14 then (if tq_w T L (tq_e T L (tq_e T L (tq_e T L (tq_e T L p)))) = 28 then 1 else 0) else if i = 15 then tq_v T L (tq_e T L p) else tq_v T L (tq_e T L (tq_e T L p)))) P B)))) := by
  have n42 := fun V (hn : pk_NT V r D) => (pk_NT_iff.mp hn).2.2.2.2.1
  obtain ⟨V1, a1, a2, a3⟩ := pr_go (N := N) hN hS h hk
  obtain ⟨m1, m2⟩ := pr_nm (N := N) (lo := 0) (hi := 39) hN hS a3 (by omega) (by omega)
  constructor
  · intro q
    obtain ⟨V2, b1, b2, b3⟩ := m2 q
    have f1 : pk_FR r (bk_wI V2 (r + 11) (4 * D 10 0) (nI (tq_v T L (tq_e T L p)))) (tq_no T L (tq_e T L p) 0 39) (tq_s T L (tq_e T L p)) := b3.wr (by omega)
    have f2 : pk_FR r (bk_wI (bk_wI V2 (r + 11) (4 * D 10 0) (nI (tq_v T L (tq_e T L p)))) (r + 11) (4 * D 10 0 + 1) (nI 0)) (tq_no T L (tq_e T L p) 0 39) (tq_s T L (tq_e T L p)) := f1.wr (by omega)
    have f3 : pk_FR r (bk_wI (bk_wI (bk_wI V2 (r + 11) (4 * D 10 0) (nI (tq_v T L (tq_e T L p)))) (r + 11) (4 * D 10 0 + 1) (nI 0)) (r + 11) (4 * D 10 0 + 2) (nI 0)) (tq_no T L (tq_e T L p) 0 39) (tq_s T L (tq_e T L p)) := f2.wr (by omega)
    refine ⟨_, ?_, ((((a2.toW.tr b2.toW).tr (pk_frW.wr (by omega))).tr (pk_frW.wr (by omega))).tr (pk_frW.wr (by omega))).tr (pk_frW.wr (by omega)), f3.wr (a := r + 11) (j := 4 * D 10 0 + 3) (x := nI 0) (by omega)⟩
    rw [pr_riderE hS hl (n42 _ h.2.1) h.1.2.2.2 a1 (n42 _ a3.2.1) b1 (pr_numF hS f1) (pr_numF hS f2), pr_goodN hS f3, pk_bs, if_pos rfl, pr_91F hS hl f3]
  intro q1
  obtain ⟨V2, b1, b2, b3⟩ := m1 q1
  have b4 : pk_LR r (bk_wI V2 (r + 11) (4 * D 10 0) (nI (tq_v T L (tq_e T L p)))) T L (tq_e T L (tq_e T L p)) D P B := b3.w11 (by omega)
  obtain ⟨m1, m2⟩ := pr_nm (N := N) (lo := 0) (hi := 39) hN hS b4 (by omega) (by omega)
  constructor
  · intro q
    obtain ⟨V3, c1, c2, c3⟩ := m2 q
    have f2 : pk_FR r (bk_wI V3 (r + 11) (4 * D 10 0 + 1) (nI (tq_v T L (tq_e T L (tq_e T L p))))) (tq_no T L (tq_e T L (tq_e T L p)) 0 39) (tq_s T L (tq_e T L (tq_e T L p))) := c3.wr (by omega)
    have f3 : pk_FR r (bk_wI (bk_wI V3 (r + 11) (4 * D 10 0 + 1) (nI (tq_v T L (tq_e T L (tq_e T L p))))) (r + 11) (4 * D 10 0 + 2) (nI 0)) (tq_no T L (tq_e T L (tq_e T L p)) 0 39) (tq_s T L (tq_e T L (tq_e T L p))) := f2.wr (by omega)
    refine ⟨_, ?_, (((((a2.toW.tr b2.toW).tr (pk_frW.wr (by omega))).tr c2.toW).tr (pk_frW.wr (by omega))).tr (pk_frW.wr (by omega))).tr (pk_frW.wr (by omega)), f3.wr (a := r + 11) (j := 4 * D 10 0 + 3) (x := nI 0) (by omega)⟩
    rw [pr_riderE hS hl (n42 _ h.2.1) h.1.2.2.2 a1 (n42 _ a3.2.1) b1 c1 (pr_numF hS f2), pr_goodN hS f3, pk_bs, if_pos rfl, pr_91F hS hl f3]
  intro q2
  obtain ⟨V3, c1, c2, c3⟩ := m1 q2
  have c4 : pk_LR r (bk_wI V3 (r + 11) (4 * D 10 0 + 1) (nI (tq_v T L (tq_e T L (tq_e T L p))))) T L (tq_e T L (tq_e T L (tq_e T L p))) D P B := c3.w11 (by omega)
  obtain ⟨m1, m2⟩ := pr_nm (N := N) (lo := 0) (hi := 23) hN hS c4 (by omega) (by omega)
  constructor
  · intro q
    obtain ⟨V4, d1, d2, d3⟩ := m2 q
    have f3 : pk_FR r (bk_wI V4 (r + 11) (4 * D 10 0 + 2) (nI (tq_v T L (tq_e T L (tq_e T L (tq_e T L p)))))) (tq_no T L (tq_e T L (tq_e T L (tq_e T L p))) 0 23) (tq_s T L (tq_e T L (tq_e T L (tq_e T L p)))) := d3.wr (by omega)
    refine ⟨_, ?_, ((((((a2.toW.tr b2.toW).tr (pk_frW.wr (by omega))).tr c2.toW).tr (pk_frW.wr (by omega))).tr d2.toW).tr (pk_frW.wr (by omega))).tr (pk_frW.wr (by omega)), f3.wr (a := r + 11) (j := 4 * D 10 0 + 3) (x := nI 0) (by omega)⟩
    rw [pr_riderE hS hl (n42 _ h.2.1) h.1.2.2.2 a1 (n42 _ a3.2.1) b1 c1 d1, pr_goodN hS f3, pk_bs, if_pos rfl, pr_91F hS hl f3]
  intro q3
  obtain ⟨V4, d1, d2, d3⟩ := m1 q3
  have d4 : pk_LR r (bk_wI V4 (r + 11) (4 * D 10 0 + 2) (nI (tq_v T L (tq_e T L (tq_e T L (tq_e T L p)))))) T L (tq_e T L (tq_e T L (tq_e T L (tq_e T L p)))) D P B := d3.w11 (by omega)
  have fd : pk_frW r V (bk_wI V4 (r + 11) (4 * D 10 0 + 2) (nI (tq_v T L (tq_e T L (tq_e T L (tq_e T L p)))))) := (((((a2.toW.tr b2.toW).tr (pk_frW.wr (by omega))).tr c2.toW).tr (pk_frW.wr (by omega))).tr d2.toW).tr (pk_frW.wr (by omega))
  have wb := tq_w_b (T := T) (L := L) (p := (tq_e T L (tq_e T L (tq_e T L (tq_e T L p)))))
  rw [pr_riderE hS hl (n42 _ h.2.1) h.1.2.2.2 a1 (n42 _ a3.2.1) b1 c1 d1, pr_goodY hS d4.1.2.2.2, pk_bs, if_neg (show ¬ nI 1 = nI 0 by decide), pr_known hN hS d4.1.1.2.2.1 d4.1.2.2.1 d4.1.2.1, pk_bs]
  constructor
  · intro w1 w2
    obtain ⟨V5, n1, n2, n3, -, -⟩ := pr_needN (N := N) hS d4.1
    have f1 : pk_FR r (bk_wI V5 (r + 11) (4 * D 10 0 + 3) (nI 0)) 1 (tq_s T L (tq_e T L (tq_e T L (tq_e T L (tq_e T L p))))) := n3.wr (by omega)
    refine ⟨_, ?_, (fd.tr n2.toW).tr (pk_frW.wr (by omega)), f1⟩
    unfold q_X12_readsRider_91
    rw [if_neg (show ¬ tq_wI (tq_w T L (tq_e T L (tq_e T L (tq_e T L (tq_e T L p))))) = (28 : Int32) from (show ¬ tq_wI (tq_w T L (tq_e T L (tq_e T L (tq_e T L (tq_e T L p))))) = nI 28 by rw [tq_wI_eq (by omega) (by omega)]; exact w1)), if_neg (show ¬ tq_wI (tq_w T L (tq_e T L (tq_e T L (tq_e T L (tq_e T L p))))) = (29 : Int32) from (show ¬ tq_wI (tq_w T L (tq_e T L (tq_e T L (tq_e T L (tq_e T L p))))) = nI 29 by rw [tq_wI_eq (by omega) (by omega)]; exact w2)), show q_X12_readsRider_110 N Y (bk_wI V4 (r + 11) (4 * D 10 0 + 2) (nI (tq_v T L (tq_e T L (tq_e T L (tq_e T L p)))))) r (nI (4 * D 10 0)) (tq_wI (tq_w T L (tq_e T L (tq_e T L (tq_e T L (tq_e T L p)))))) r 0 = _ from pr_110 hS hl n1, if_neg (show ¬ tq_wI (tq_w T L (tq_e T L (tq_e T L (tq_e T L (tq_e T L p))))) = nI 28 by rw [tq_wI_eq (by omega) (by omega)]; exact w1), pr_131 hS hl, pr_goodN hS f1, pk_bs, if_pos rfl]
  · intro hw
    have wk := tq_w_k (T := T) (L := L) (p := (tq_e T L (tq_e T L (tq_e T L (tq_e T L p))))) (by omega)
    obtain ⟨V5, n1, n2, n3⟩ := pr_needY (N := N) hN hS d4.1
    have ge := tq_e_gt (T := T) d4.1.1.2.2.1 d4.1.2.2.1 (by omega)
    have d5 := d4.frT n2 n3 (by omega)
    have d6 : ∀ x, pk_LR r (bk_wI V5 (r + 11) (4 * D 10 0 + 3) x) T L (tq_e T L (tq_e T L (tq_e T L (tq_e T L (tq_e T L p))))) D P B := fun x => d5.w11 (by omega)
    have r5 : ∀ j, bk_rI V5 (r + 11) j = bk_rI (bk_wI V4 (r + 11) (4 * D 10 0 + 2) (nI (tq_v T L (tq_e T L (tq_e T L (tq_e T L p)))))) (r + 11) j := fun j => congrFun (n2.1 (r + 11) (by omega)) j
    have r4 : ∀ j, bk_rI V4 (r + 11) j = bk_rI (bk_wI V3 (r + 11) (4 * D 10 0 + 1) (nI (tq_v T L (tq_e T L (tq_e T L p))))) (r + 11) j := fun j => congrFun (d2.1 (r + 11) (by omega)) j
    have r3 : ∀ j, bk_rI V3 (r + 11) j = bk_rI (bk_wI V2 (r + 11) (4 * D 10 0) (nI (tq_v T L (tq_e T L p)))) (r + 11) j := fun j => congrFun (c2.1 (r + 11) (by omega)) j
    have fin : ∀ d : Nat, pk_LR r (bk_wI (bk_wI V5 (r + 11) (4 * D 10 0 + 3) (nI d)) r 42 (nI (D 10 0 + 1))) T L (tq_e T L (tq_e T L (tq_e T L (tq_e T L (tq_e T L p))))) (tq_Da D 10 11 16 (fun i => if i = 11 then min (tq_v T L (tq_e T L p)) (tq_v T L (tq_e T L (tq_e T L p))) else if i = 12 then max (tq_v T L (tq_e T L p)) (tq_v T L (tq_e T L (tq_e T L p))) else if i = 13 then tq_v T L (tq_e T L (tq_e T L (tq_e T L p))) else if i = 14 then d else if i = 15 then tq_v T L (tq_e T L p) else tq_v T L (tq_e T L (tq_e T L p)))) P B := by
      intro d
      refine (d6 (nI d)).rows (fun k q => by rw [pk_rI_same, if_neg (by omega)]) (fun a q1 q2 => pk_rowI q1) rfl ((d6 (nI d)).2.1.w7 (fun a q1 q2 q3 => pk_rowI (by omega)) (fun k q1 q2 q3 => by rw [pk_rI_same, if_neg q3]) (by rw [pk_rI_same, if_pos rfl]) (fun k hk => by rw [pk_rI_ne (by omega)]) ?_ ?_ ?_ ?_)
      · rw [pk_rI_ne (by omega), pk_rI_same, if_neg (by omega), r5, pk_rI_same, if_neg (by omega), r4, pk_rI_same, if_neg (by omega), r3, pk_rI_same, if_pos rfl]
        rfl
      · rw [pk_rI_ne (by omega), pk_rI_same, if_neg (by omega), r5, pk_rI_same, if_neg (by omega), r4, pk_rI_same, if_pos rfl]
        rfl
      · rw [pk_rI_ne (by omega), pk_rI_same, if_neg (by omega), r5, pk_rI_same, if_pos rfl]
        rfl
      · rw [pk_rI_ne (by omega), pk_rI_same, if_pos rfl]
        rfl
    have e131 : ∀ d : Nat, q_X12_readsRider_131 N Y V5 r (r + 11) (nI (4 * D 10 0 + 3)) (nI d) = some (bk_wI (bk_wI V5 (r + 11) (4 * D 10 0 + 3) (nI d)) r 42 (nI (D 10 0 + 1))) := by
      intro d
      rw [pr_131 hS hl, pr_goodY hS (d6 (nI d)).1.2.2.2, pk_bs, if_neg (show ¬ nI 1 = nI 0 by decide), n42 _ (d6 (nI d)).2.1, nI_add]
    have e110 : ∀ y, q_X12_readsRider_105 N Y (bk_wI V4 (r + 11) (4 * D 10 0 + 2) (nI (tq_v T L (tq_e T L (tq_e T L (tq_e T L p)))))) r (nI (4 * D 10 0)) y r = _ := fun y => pr_110 (x := nI 1) hS hl n1
    have ff := fun d : Nat => (((fd.tr n2.toW).tr (pk_frW.wr (k := 4 * D 10 0 + 3) (x := nI d) (a := r + 11) (by omega))).tr (pk_frW.ws (k := 42) (x := nI (D 10 0 + 1)) (by omega)))
    unfold q_X12_readsRider_91
    rcases hw with w | w
    · rw [if_pos (show tq_wI (tq_w T L (tq_e T L (tq_e T L (tq_e T L (tq_e T L p))))) = (28 : Int32) by rw [w]; rfl), e110, if_pos (show tq_wI (tq_w T L (tq_e T L (tq_e T L (tq_e T L (tq_e T L p))))) = nI 28 by rw [w]; rfl), e131]
      refine ⟨_, rfl, ff 1, ?_⟩
      simp only [w, if_true]
      exact fin 1
    · rw [if_neg (show ¬ tq_wI (tq_w T L (tq_e T L (tq_e T L (tq_e T L (tq_e T L p))))) = (28 : Int32) by rw [w]; decide), if_pos (show tq_wI (tq_w T L (tq_e T L (tq_e T L (tq_e T L (tq_e T L p))))) = (29 : Int32) by rw [w]; rfl), e110, if_neg (show ¬ tq_wI (tq_w T L (tq_e T L (tq_e T L (tq_e T L (tq_e T L p))))) = nI 28 by rw [w]; decide), e131]
      refine ⟨_, rfl, ff 0, ?_⟩
      simp only [w, Nat.reduceEqDiff, if_false]
      exact fin 0
theorem ln_rider (H : pk_lH N z u Y T L p D P B) (hw : tq_w T L p = 27) : pk_ln N z u r Y T L p D P B := by
  have ee := H.ends
  obtain ⟨hN, hC, hL, hp, hD, hP0, hP1, hk⟩ := H
  have ⟨hN1, hM, hSd, hi, u1, u2⟩ := hC
  obtain ⟨d10, -⟩ := (pk_DB_iff.mp hD).2.2.2.2.1
  by_cases q0 : D 10 0 < 8
  rotate_left
  · refine ⟨tq_oF 2 (tq_s T L p), pk_oB.F (by omega), fun V h => ?_, fun Y2 V hS h => ?_⟩
    · rw [pc_line27 hC h.1 hw]
      refine pc_sgn hC ?_
      rw [pc_riderE hC h d10, if_neg q0]
      exact pc_ref hC h (by omega)
    · rw [pr_line27 (by omega) hS h.1 hw]
      obtain ⟨V1, w1, w2, w3, -, -⟩ := pr_wrongY (N := N) (k := 2) hS h.1 (by omega)
      refine pk_oK.F (by omega) ?_ w2.toW w3
      have a1 := (pk_NT_iff.mp h.2.1).2.2.2.2.1
      unfold q_X12_readsRider
      rw [pk_ck hS.1, a1, if_pos (show nI (D 10 0) = (8 : Int32) by rw [show D 10 0 = 8 by omega]; rfl), show q_X12_wrong N Y2 V r 2 = some V1 from w1, pk_bs]
      unfold q_X12_readsRider_14
      rw [pk_ck hS.1, pr_goodN hS w3, pk_bs, if_pos (show nI 0 = (0 : Int32) from rfl), pk_bs, pr_384F hS w3]
  have R := fun Y2 V (hS : pk_Rf Y2 r) h => pr_rider (N := N) (Y := Y2) (V := V) (T := T) (L := L) (p := p) (P := P) (B := B) (by omega) hS h hk q0
  by_cases q1 : tq_no T L (tq_e T L p) 0 39 = 0
  rotate_left
  · refine ⟨tq_oF (tq_no T L (tq_e T L p) 0 39) (tq_s T L (tq_e T L p)), pk_oB.F q1, fun V h => ?_, fun Y2 V hS h => ?_⟩
    · rw [pc_line27 hC h.1 hw]
      refine pc_sgn hC ?_
      obtain ⟨V1, a1, a2, a3⟩ := pc_go hC h
      obtain ⟨V2, b1, b2, b3⟩ := (pc_nm (lo := 0) (hi := 39) hC a3 (by omega) (by omega)).2 q1
      refine pk_oC.F q1 ?_ (a2.tr b2) b3
      rw [pc_riderE hC h d10, if_pos q0, a1, pk_bs, b1, pk_bd2E, if_pos rfl]
    · rw [pr_line27 (by omega) hS h.1 hw]
      obtain ⟨V1, c1, c2, c3⟩ := (R Y2 V hS h).1 q1
      exact pk_oK.F q1 (by rw [c1, pk_bs, pr_384F hS c3]) c2 c3
  obtain ⟨i0, i1, i2⟩ := tq_no0 q1
  have e2 := tq_e_gt (T := T) hL ee.2 i0
  have e3 := tq_e_le (T := T) hL ee.2
  by_cases q2 : tq_no T L (tq_e T L (tq_e T L p)) 0 39 = 0
  rotate_left
  · refine ⟨tq_oF (tq_no T L (tq_e T L (tq_e T L p)) 0 39) (tq_s T L (tq_e T L (tq_e T L p))), pk_oB.F q2, fun V h => ?_, fun Y2 V hS h => ?_⟩
    · rw [pc_line27 hC h.1 hw]
      refine pc_sgn hC ?_
      obtain ⟨V1, a1, a2, a3⟩ := pc_go hC h
      obtain ⟨V2, b1, b2, b3, b4⟩ := (pc_nm (lo := 0) (hi := 39) hC a3 (by omega) (by omega)).1 q1
      obtain ⟨V3, c1, c2, c3⟩ := (pc_nm (lo := 0) (hi := 39) hC b4 (by omega) (by omega)).2 q2
      refine pk_oC.F q2 ?_ ((a2.tr b2).tr c2) c3
      rw [pc_riderE hC h d10, if_pos q0, a1, pk_bs, b1, pk_bd2E, if_neg (show ¬ nI 1 = nI 0 by decide), c1, pk_bd2E, if_pos rfl]
    · rw [pr_line27 (by omega) hS h.1 hw]
      obtain ⟨V1, c1, c2, c3⟩ := ((R Y2 V hS h).2 q1).1 q2
      exact pk_oK.F q2 (by rw [c1, pk_bs, pr_384F hS c3]) c2 c3
  obtain ⟨j0, j1, j2⟩ := tq_no0 q2
  have e4 := tq_e_gt (T := T) hL e3 j0
  have e5 := tq_e_le (T := T) hL e3
  by_cases q3 : tq_no T L (tq_e T L (tq_e T L (tq_e T L p))) 0 23 = 0
  rotate_left
  · refine ⟨tq_oF (tq_no T L (tq_e T L (tq_e T L (tq_e T L p))) 0 23) (tq_s T L (tq_e T L (tq_e T L (tq_e T L p)))), pk_oB.F q3, fun V h => ?_, fun Y2 V hS h => ?_⟩
    · rw [pc_line27 hC h.1 hw]
      refine pc_sgn hC ?_
      obtain ⟨V1, a1, a2, a3⟩ := pc_go hC h
      obtain ⟨V2, b1, b2, b3, b4⟩ := (pc_nm (lo := 0) (hi := 39) hC a3 (by omega) (by omega)).1 q1
      obtain ⟨V3, c1, c2, c3, c4⟩ := (pc_nm (lo := 0) (hi := 39) hC b4 (by omega) (by omega)).1 q2
      obtain ⟨V4, f1, f2, f3⟩ := (pc_nm (lo := 0) (hi := 23) hC c4 (by omega) (by omega)).2 q3
      refine pk_oC.F q3 ?_ (((a2.tr b2).tr c2).tr f2) f3
      rw [pc_riderE hC h d10, if_pos q0, a1, pk_bs, b1, pk_bd2E, if_neg (show ¬ nI 1 = nI 0 by decide), c1, pk_bd2E, if_neg (show ¬ nI 1 = nI 0 by decide), f1, pk_bd2E, if_pos rfl]
    · rw [pr_line27 (by omega) hS h.1 hw]
      obtain ⟨V1, c1, c2, c3⟩ := (((R Y2 V hS h).2 q1).2 q2).1 q3
      exact pk_oK.F q3 (by rw [c1, pk_bs, pr_384F hS c3]) c2 c3
  obtain ⟨k0, k1, k2⟩ := tq_no0 q3
  have e6 := tq_e_gt (T := T) hL e5 k0
  have e7 := tq_e_le (T := T) hL e5
  have cE : ∀ V, pk_LC z u V T L p D P B → ∃ V4, pk_fW z u V V4 ∧ pk_LC z u V4 T L (tq_e T L (tq_e T L (tq_e T L (tq_e T L p)))) D P B ∧ bk_rI V4 (z + 54) 3 = nI (tq_v T L (tq_e T L (tq_e T L (tq_e T L p)))) ∧ q_X8_readRider N Y V (z + 54) = (if ¬ tq_w T L (tq_e T L (tq_e T L (tq_e T L (tq_e T L p)))) = 28 then (if ¬ tq_w T L (tq_e T L (tq_e T L (tq_e T L (tq_e T L p)))) = 29 then bk_bd2 (q_X8_refuse N Y V4 (z + 54) (nI 1)) (fun r_20 V_21 => bk_ck (r_20 = nI 0 ∨ r_20 = nI 1) (some (r_20, V_21))) else q_X8_readRider_106 N Y V4 (z + 54) (nI (tq_v T L (tq_e T L p))) (nI (tq_v T L (tq_e T L (tq_e T L p)))) (nI 0)) else q_X8_readRider_106 N Y V4 (z + 54) (nI (tq_v T L (tq_e T L p))) (nI (tq_v T L (tq_e T L (tq_e T L p)))) (nI 1)) := by
    intro V h
    obtain ⟨V1, a1, a2, a3⟩ := pc_go hC h
    obtain ⟨V2, b1, b2, b3, b4⟩ := (pc_nm (lo := 0) (hi := 39) hC a3 (by omega) (by omega)).1 q1
    obtain ⟨V3, c1, c2, c3, c4⟩ := (pc_nm (lo := 0) (hi := 39) hC b4 (by omega) (by omega)).1 q2
    obtain ⟨V4, f1, f2, f3, f4⟩ := (pc_nm (lo := 0) (hi := 23) hC c4 (by omega) (by omega)).1 q3
    refine ⟨V4, ((a2.tr b2).tr c2).tr f2, f4, f3, ?_⟩
    rw [pc_riderE hC h d10, if_pos q0, a1, pk_bs, b1, pk_bd2E, if_neg (show ¬ nI 1 = nI 0 by decide), c1, pk_bd2E, if_neg (show ¬ nI 1 = nI 0 by decide), f1, pk_bd2E, if_neg (show ¬ nI 1 = nI 0 by decide), pc_wrd hC f4.1 (by omega), pk_bs, pc_wrd hC f4.1 (by omega), pk_bs, b3, c3]
    by_cases w1 : tq_w T L (tq_e T L (tq_e T L (tq_e T L (tq_e T L p)))) = 28
    · rw [pk_Bt (show tq_w T L (tq_e T L (tq_e T L (tq_e T L (tq_e T L p)))) = tq_G.getD 34 99 from w1), if_neg (show ¬ nI 1 = nI 0 by decide), if_neg (fun g => g w1)]
    · rw [pk_Bf (show ¬ tq_w T L (tq_e T L (tq_e T L (tq_e T L (tq_e T L p)))) = tq_G.getD 34 99 from w1), if_pos rfl, if_pos w1]
      by_cases w2 : tq_w T L (tq_e T L (tq_e T L (tq_e T L (tq_e T L p)))) = 29
      · rw [pk_Bt (show tq_w T L (tq_e T L (tq_e T L (tq_e T L (tq_e T L p)))) = tq_G.getD 35 99 from w2), if_neg (show ¬ nI 1 = nI 0 by decide), if_neg (fun g => g w2)]
      · rw [pk_Bf (show ¬ tq_w T L (tq_e T L (tq_e T L (tq_e T L (tq_e T L p)))) = tq_G.getD 35 99 from w2), if_pos rfl, if_pos w2]
  by_cases q4 : tq_w T L (tq_e T L (tq_e T L (tq_e T L (tq_e T L p)))) = 28 ∨ tq_w T L (tq_e T L (tq_e T L (tq_e T L (tq_e T L p)))) = 29
  rotate_left
  · refine ⟨tq_oF 1 (tq_s T L (tq_e T L (tq_e T L (tq_e T L (tq_e T L p))))), pk_oB.F (by omega), fun V h => ?_, fun Y2 V hS h => ?_⟩
    · rw [pc_line27 hC h.1 hw]
      refine pc_sgn hC ?_
      obtain ⟨V4, c1, c2, c3, c4⟩ := cE V h
      rw [c4, if_pos (fun g => q4 (Or.inl g)), if_pos (fun g => q4 (Or.inr g))]
      exact (pc_ref hC c2 (by omega)).fr c1
    · rw [pr_line27 (by omega) hS h.1 hw]
      obtain ⟨V1, c1, c2, c3⟩ := ((((R Y2 V hS h).2 q1).2 q2).2 q3).1 (fun g => q4 (Or.inl g)) (fun g => q4 (Or.inr g))
      exact pk_oK.F (by omega) (by rw [c1, pk_bs, pr_384F hS c3]) c2 c3
  have wk := tq_w_k (T := T) (L := L) (p := (tq_e T L (tq_e T L (tq_e T L (tq_e T L p))))) (by omega)
  have e8 := tq_e_gt (T := T) hL e7 (by omega)
  refine ⟨(0, (tq_e T L (tq_e T L (tq_e T L (tq_e T L (tq_e T L p))))), tq_Da D 10 11 16 (fun i => if i = 11 then min (tq_v T L (tq_e T L p)) (tq_v T L (tq_e T L (tq_e T L p))) else if i = 12 then max (tq_v T L (tq_e T L p)) (tq_v T L (tq_e T L (tq_e T L p))) else if i = 13 then tq_v T L (tq_e T L (tq_e T L (tq_e T L p))) else if i = 14 then (if tq_w T L (tq_e T L (tq_e T L (tq_e T L (tq_e T L p)))) = 28 then 1 else 0) else if i = 15 then tq_v T L (tq_e T L p) else tq_v T L (tq_e T L (tq_e T L p))), P, B), fun _ => ⟨by show p < (tq_e T L (tq_e T L (tq_e T L (tq_e T L (tq_e T L p))))); omega, tq_e_le hL e7, hD.w7 q0 ⟨i2, j2, rfl, rfl, k2, by show (if tq_w T L (tq_e T L (tq_e T L (tq_e T L (tq_e T L p)))) = 28 then 1 else 0) ≤ 1; split <;> omega⟩, hP0, hP1⟩, fun V h => ?_, fun Y2 V hS h => ?_⟩
  · rw [pc_line27 hC h.1 hw]
    refine pc_sgn hC ?_
    obtain ⟨V4, c1, c2, c3, c4⟩ := cE V h
    obtain ⟨V5, g1, g2, g3⟩ := pc_goes (N := N) hN1 hM c2.1
    have h5 := c2.fN g2.fN u2 g3
    have g4 : bk_rI V5 (z + 54) 3 = nI (tq_v T L (tq_e T L (tq_e T L (tq_e T L p)))) := (congrFun (g2.2 (z + 54) (by omega)) 3).trans c3
    have ad := fun d (hd : d < 2) => pc_radd (a := tq_v T L (tq_e T L p)) (b := tq_v T L (tq_e T L (tq_e T L p))) (c := tq_v T L (tq_e T L (tq_e T L (tq_e T L p)))) (d := d) hC h5 q0 hd (tq_v_lt hL ee.2) (tq_v_lt hL e3)
    rw [c4]
    by_cases w1 : tq_w T L (tq_e T L (tq_e T L (tq_e T L (tq_e T L p)))) = 28
    · obtain ⟨V6, l1, l2, l3⟩ := ad 1 (by omega)
      refine Or.inl ⟨rfl, V6, ?_, (c1.tr g2.fN.fW).tr l2, ?_⟩
      · rw [if_neg (fun g => g w1), pc_106 hC g1 g4, l1, pk_bs]
      · simp only [w1, if_true]
        exact l3
    · have w2 := q4.resolve_left w1
      obtain ⟨V6, l1, l2, l3⟩ := ad 0 (by omega)
      refine Or.inl ⟨rfl, V6, ?_, (c1.tr g2.fN.fW).tr l2, ?_⟩
      · rw [if_pos w1, if_neg (fun g => g w2), pc_106 hC g1 g4, l1, pk_bs]
      · simp only [w1, if_false]
        exact l3
  · rw [pr_line27 (by omega) hS h.1 hw]
    obtain ⟨V1, c1, c2, c3⟩ := ((((R Y2 V hS h).2 q1).2 q2).2 q3).2 q4
    exact Or.inl ⟨rfl, V1, by rw [c1, pk_bs], c2, c3⟩
end
