/-! the lines: holes, the reference -/
section
variable {N z t u s r a b c d k n j h m l p q q0 md wa s' i f gg v S L g lo hi w e : Nat} {Y Y2 Y' : bk_Lay} {V V' V1 V2 V8 V21 : bk_Val} {x y x1 x2 x3 x4 x5 ee : Int32} {T T' R G In : Nat → Nat} {D D' : Nat → Nat → Nat} {P P' : Nat → List Nat} {B B' : Nat → Bool} {K : List Nat} {o : pk_O} {X : Option (Int32 × bk_Val)} {XR : Option bk_Val}
theorem pr_124E (hS : pk_Rf Y r) (hn : n < 6) (h8 : q_X12_need N Y V r x3 = some V8) (h40 : bk_rI V8 r 40 = nI n) (hm : q_X12_number N Y (bk_wI (bk_wI V8 (r + 8) (4 * n) x1) (r + 8) (4 * n + 1) x2) r (nI 1) (nI 24) = some (x, V21)) : q_X12_readsHole_124 N Y V r x1 x2 x3 = (q_X12_isGood N Y (bk_wI (bk_wI V21 (r + 8) (4 * n + 2) x) (r + 8) (4 * n + 3) (nI 0)) r).bind fun r_29 => if r_29 = nI 0 then q_X12_readsHole_211 N Y (bk_wI (bk_wI V21 (r + 8) (4 * n + 2) x) (r + 8) (4 * n + 3) (nI 0)) r else (q_X12_knownWord N Y (bk_wI (bk_wI V21 (r + 8) (4 * n + 2) x) (r + 8) (4 * n + 3) (nI 0)) r).bind fun r_31 => if r_31 = nI 19 then (q_X12_goes N Y (bk_wI (bk_wI (bk_wI V21 (r + 8) (4 * n + 2) x) (r + 8) (4 * n + 3) (nI 0)) (r + 8) (4 * n + 3) (nI 1)) r).bind fun V_36 => q_X12_readsHole_211 N Y V_36 r else q_X12_readsHole_211 N Y (bk_wI (bk_wI V21 (r + 8) (4 * n + 2) x) (r + 8) (4 * n + 3) (nI 0)) r := by
  unfold q_X12_readsHole_124
  rw [pk_ck hS.1, h8, pk_bs]
  simp (disch := omega) only [hS, pk_ckT, pk_bs, pk_letE, pk_bd2E, pk_bd3E, if_true, if_false, eq_self, not_true_eq_false, not_false_eq_true, true_and, and_true, Nat.not_lt_zero, Nat.zero_le, Nat.reduceEqDiff, Nat.reduceLT, Nat.reduceLeDiff, pk_ck, pk_lit, h40, pk_mul, nI_add, nI_clamp, pk_inE, hm]
theorem pr_124F (hS : pk_Rf Y r) (hn : n < 6) (h8 : q_X12_need N Y V r x3 = some V8) (hf : pk_FR r V8 k e) (h40 : bk_rI V8 r 40 = nI n) : ∃ V', q_X12_readsHole_124 N Y V r x1 x2 x3 = some V' ∧ pk_frW r V8 V' ∧ pk_FR r V' k e := by
  have f1 : pk_FR r (bk_wI (bk_wI V8 (r + 8) (4 * n) x1) (r + 8) (4 * n + 1) x2) k e := (hf.wr (by omega)).wr (by omega)
  have f2 : pk_FR r (bk_wI (bk_wI (bk_wI (bk_wI V8 (r + 8) (4 * n) x1) (r + 8) (4 * n + 1) x2) (r + 8) (4 * n + 2) (nI 0)) (r + 8) (4 * n + 3) (nI 0)) k e := (f1.wr (by omega)).wr (by omega)
  refine ⟨_, ?_, (((pk_frW.wr (by omega)).tr (pk_frW.wr (by omega))).tr (pk_frW.wr (by omega))).tr (pk_frW.wr (by omega)), f2⟩
  rw [pr_124E hS hn h8 h40 (pr_numF hS f1), pr_goodN hS f2, pk_bs, if_pos rfl]
  unfold q_X12_readsHole_211
  rw [pk_ck hS.1, pr_goodN hS f2, pk_bs, if_pos (show nI 0 = (0 : Int32) from rfl)]
theorem pr_72F (hS : pk_Rf Y r) (hf : pk_FR r V k e) (hn : n ≤ 6) (h40 : bk_rI V r 40 = nI n) : ∀ m j f, j + m = n → m < f → q_X12_readsHole_72 N Y f V r x1 x2 (nI 1) (nI j) = q_X12_readsHole_124 N Y V r x1 x2 (nI 1) := by
  intro m
  induction m with
  | zero =>
    intro j f hj hf2
    rw [show f = f - 1 + 1 by omega, q_X12_readsHole_72, pk_ck hS.1, h40, if_pos (show nI n ≤ nI j by rw [nI_leI (by omega) (by omega)]; omega)]
  | succ m ih =>
    intro j f hj hf2
    obtain ⟨f', rfl⟩ : ∃ f', f = f' + 1 := ⟨f - 1, by omega⟩
    have i1 := ih (j + 1) f' (by omega) (by omega)
    rw [q_X12_readsHole_72, pk_ck hS.1, h40, if_neg (show ¬ nI n ≤ nI j by rw [nI_leI (by omega) (by omega)]; omega), if_neg pk_n10]
    simp (disch := omega) only [hS, pk_ckT, pk_bs, pk_letE, pk_bd2E, pk_bd3E, if_true, if_false, eq_self, not_true_eq_false, not_false_eq_true, true_and, and_true, Nat.not_lt_zero, Nat.zero_le, Nat.reduceEqDiff, Nat.reduceLT, Nat.reduceLeDiff, pk_ck, pk_lit, pk_mul, nI_add, nI_clamp, pk_inE, pr_wrongN hS hf, q_X12_readsHole_118, i1, ite_self]
theorem pr_72 (hS : pk_Rf Y r) (h : pk_LR r V T L p D P B) (hD : pk_DB D P) (hi : i < 10000) (hs : s < 4) : ∀ m j f, j + m = D 2 0 → m < f → (¬ (∃ k, j ≤ k ∧ k < D 2 0 ∧ D 3 k = i ∧ D 4 k = s) → q_X12_readsHole_72 N Y f V r (nI i) (nI s) (nI 1) (nI j) = q_X12_readsHole_124 N Y V r (nI i) (nI s) (nI 1)) ∧ ((∃ k, j ≤ k ∧ k < D 2 0 ∧ D 3 k = i ∧ D 4 k = s) → ∃ V', q_X12_readsHole_72 N Y f V r (nI i) (nI s) (nI 1) (nI j) = q_X12_readsHole_124 N Y V' r (nI i) (nI s) (nI 1) ∧ pk_frU r V V' ∧ pk_FR r V' 4 (tq_s T L p)) := by
  obtain ⟨a1, a2⟩ := (pk_NT_iff.mp h.2.1).2.2.1
  obtain ⟨d1, d2⟩ := (pk_DB_iff.mp hD).2.2.1
  have d0 := hD.1
  obtain ⟨V1, w1, w2, w3, -, -⟩ := pr_wrongY (N := N) (k := 4) hS h.1 (by omega)
  intro m
  induction m with
  | zero =>
    intro j f hj hf2
    refine ⟨fun _ => ?_, fun ⟨k, g1, g2, _⟩ => by omega⟩
    rw [show f = f - 1 + 1 by omega, q_X12_readsHole_72, pk_ck hS.1, a1, if_pos (show nI (D 2 0) ≤ nI j by rw [nI_leI (by omega) (by omega)]; omega)]
  | succ m ih =>
    intro j f hj hf2
    obtain ⟨f', rfl⟩ : ∃ f', f = f' + 1 := ⟨f - 1, by omega⟩
    obtain ⟨i1, i2⟩ := ih (j + 1) f' (by omega) (by omega)
    obtain ⟨b1, b2, -, -⟩ := a2 j (by omega)
    obtain ⟨c1, c2, -⟩ := d2 j (by omega)
    have e0 : q_X12_readsHole_72 N Y (f' + 1) V r (nI i) (nI s) (nI 1) (nI j) = if D 3 j = i then (if D 4 j = s then q_X12_readsHole_72 N Y f' V1 r (nI i) (nI s) (nI 1) (nI (j + 1)) else q_X12_readsHole_72 N Y f' V r (nI i) (nI s) (nI 1) (nI (j + 1))) else q_X12_readsHole_72 N Y f' V r (nI i) (nI s) (nI 1) (nI (j + 1)) := by
      rw [q_X12_readsHole_72, pk_ck hS.1, a1, if_neg (show ¬ nI (D 2 0) ≤ nI j by rw [nI_leI (by omega) (by omega)]; omega), if_neg pk_n10]
      simp (disch := omega) only [hS, pk_ckT, pk_bs, pk_letE, pk_bd2E, pk_bd3E, if_true, if_false, eq_self, not_true_eq_false, not_false_eq_true, true_and, and_true, Nat.not_lt_zero, Nat.zero_le, Nat.reduceEqDiff, Nat.reduceLT, Nat.reduceLeDiff, pk_ck, pk_lit, pk_mul, nI_add, nI_clamp, pk_inE, b1, b2, nI_eq, w1, q_X12_readsHole_118]
    rw [e0]
    by_cases q : D 3 j = i ∧ D 4 j = s
    · rw [if_pos q.1, if_pos q.2]
      refine ⟨fun g => absurd ⟨j, Nat.le_refl _, by omega, q⟩ g, fun _ => ⟨V1, ?_, w2, w3⟩⟩
      exact pr_72F hS w3 d1 ((w2.2.1 40 (by omega)).trans a1) m (j + 1) f' (by omega) (by omega)
    · have e1 : (if D 3 j = i then (if D 4 j = s then q_X12_readsHole_72 N Y f' V1 r (nI i) (nI s) (nI 1) (nI (j + 1)) else q_X12_readsHole_72 N Y f' V r (nI i) (nI s) (nI 1) (nI (j + 1))) else q_X12_readsHole_72 N Y f' V r (nI i) (nI s) (nI 1) (nI (j + 1))) = q_X12_readsHole_72 N Y f' V r (nI i) (nI s) (nI 1) (nI (j + 1)) := by
        by_cases q1 : D 3 j = i
        · rw [if_pos q1, if_neg (fun g => q ⟨q1, g⟩)]
        · rw [if_neg q1]
      rw [e1]
      constructor
      · exact fun g => i1 (fun ⟨k, g1, g2⟩ => g ⟨k, by omega, g2⟩)
      · rintro ⟨k, g1, g2, g3⟩
        refine i2 ⟨k, ?_, g2, g3⟩
        rcases (show k = j ∨ j + 1 ≤ k by omega) with g | g
        · subst g; exact absurd g3 q
        · exact g
/-- the reference's hole up to its side -/
theorem pr_h14 (hN : 1000 ≤ N) (hS : pk_Rf Y r) (h : pk_LR r V T L p D P B) (hD : pk_DB D P) (hk : tq_k T L p ≠ 0) (hl : D 2 0 < 6) : (tq_no T L (tq_e T L p) 0 (D 0 0 - 1) ≠ 0 → ∃ V', q_X12_readsHole N Y V r = some V' ∧ pk_frW r V V' ∧ pk_FR r V' (tq_no T L (tq_e T L p) 0 (D 0 0 - 1)) (tq_s T L (tq_e T L p))) ∧ (tq_no T L (tq_e T L p) 0 (D 0 0 - 1) = 0 → ∃ V', pk_frW r V V' ∧ pk_LR r V' T L (tq_e T L (tq_e T L p)) D P B ∧ q_X12_readsHole N Y V r = if tq_wI (tq_w T L (tq_e T L (tq_e T L p))) - 9 < 0 then q_X12_readsHole_67 N Y V' r (nI (tq_v T L (tq_e T L p))) (tq_wI (tq_w T L (tq_e T L (tq_e T L p))) - 9) else if 3 < tq_wI (tq_w T L (tq_e T L (tq_e T L p))) - 9 then q_X12_readsHole_67 N Y V' r (nI (tq_v T L (tq_e T L p))) (tq_wI (tq_w T L (tq_e T L (tq_e T L p))) - 9) else q_X12_readsHole_68 N Y V' r (nI (tq_v T L (tq_e T L p))) (tq_wI (tq_w T L (tq_e T L (tq_e T L p))) - 9) 1) := by
  have a1 := (pk_NT_iff.mp h.2.1).2.2.1.1
  have d0 := hD.1
  obtain ⟨V1, g1, g2, g3⟩ := pr_go (N := N) hN hS h hk
  obtain ⟨n1, n2⟩ := pr_nm (N := N) (lo := 0) (hi := D 0 0 - 1) hN hS g3 (by omega) (by omega)
  have e32 : bk_rI V1 r 32 - 1 = nI (D 0 0 - 1) := by
    show bk_rI V1 r (32 + 0) - nI 1 = _
    rw [(pk_NT_iff.mp g3.2.1).1 0 (by omega), pk_sub (by omega)]
  have e0 : q_X12_readsHole N Y V r = bk_bd2 (q_X12_number N Y V1 r (nI 0) (nI (D 0 0 - 1))) (fun r_57 V_58 => (q_X12_isGood N Y V_58 r).bind fun r_60 => if r_60 = 0 then some V_58 else (q_X12_knownWord N Y V_58 r).bind fun r_62 => if (r_62 - 9) < 0 then q_X12_readsHole_67 N Y V_58 r r_57 (r_62 - 9) else if 3 < (r_62 - 9) then q_X12_readsHole_67 N Y V_58 r r_57 (r_62 - 9) else q_X12_readsHole_68 N Y V_58 r r_57 (r_62 - 9) 1) := by
    unfold q_X12_readsHole
    rw [pk_ck hS.1, a1, if_neg (show ¬ nI (D 2 0) = (6 : Int32) from (show ¬ nI (D 2 0) = nI 6 by rw [nI_eq (by omega) (by omega)]; omega))]
    unfold q_X12_readsHole_14
    rw [pk_ck hS.1, pr_goodY hS h.1.2.2.2, pk_bs, if_neg pk_n10, g1, pk_bs, e32]
    rfl
  rw [e0]
  constructor
  · intro q
    obtain ⟨V2, c1, c2, c3⟩ := n2 q
    exact ⟨V2, by rw [c1, pk_bd2E, pr_goodN hS c3, pk_bs, if_pos (show nI 0 = (0 : Int32) from rfl)], g2.toW.tr c2.toW, c3⟩
  · intro q
    obtain ⟨V2, c1, c2, c3⟩ := n1 q
    refine ⟨V2, g2.toW.tr c2.toW, c3, ?_⟩
    rw [c1, pk_bd2E, pr_goodY hS c3.1.2.2.2, pk_bs, if_neg pk_n10, pr_known hN hS c3.1.1.2.2.1 c3.1.2.2.1 c3.1.2.1, pk_bs]
theorem pr_h67 (hN : 1000 ≤ N) (hS : pk_Rf Y r) (h : pk_LR r V T L p D P B) (hl : D 2 0 < 6) : ∃ V', q_X12_readsHole_67 N Y V r x1 x2 = some V' ∧ pk_frW r V V' ∧ pk_FR r V' 1 (tq_s T L p) := by
  have a1 := (pk_NT_iff.mp h.2.1).2.2.1.1
  obtain ⟨V1, n1, n2, n3, -, -⟩ := pr_needN (N := N) hS h.1
  obtain ⟨V2, b1, b2, b3⟩ := pr_124F (N := N) (x1 := x1) (x2 := x2) hS hl n1 n3 ((n2.2.1 40 (by omega)).trans a1)
  refine ⟨V2, ?_, n2.toW.tr b2, b3⟩
  unfold q_X12_readsHole_67 q_X12_readsHole_68
  rw [show N = N - 1 + 1 by omega, q_X12_readsHole_72, pk_ck hS.1, if_pos (show (0 : Int32) = 0 from rfl), ite_self]
  rw [show N - 1 + 1 = N by omega]
  exact b1
/-- the reference's hole from its side on -/
theorem pr_h68 (hN : 1000 ≤ N) (hS : pk_Rf Y r) (h : pk_LR r V T L p D P B) (hD : pk_DB D P) (hl : D 2 0 < 6) (hi : i < 10000) (hs : s < 4) (hk : tq_k T L p ≠ 0) : (tq_at D i s → ∃ V', q_X12_readsHole_68 N Y V r (nI i) (nI s) 1 = some V' ∧ pk_frW r V V' ∧ pk_FR r V' 4 (tq_s T L p)) ∧ (¬ tq_at D i s → (tq_no T L (tq_e T L p) 1 24 ≠ 0 → ∃ V', q_X12_readsHole_68 N Y V r (nI i) (nI s) 1 = some V' ∧ pk_frW r V V' ∧ pk_FR r V' (tq_no T L (tq_e T L p) 1 24) (tq_s T L (tq_e T L p))) ∧ (tq_no T L (tq_e T L p) 1 24 = 0 → ∃ V', q_X12_readsHole_68 N Y V r (nI i) (nI s) 1 = some V' ∧ pk_frW r V V' ∧ pk_LR r V' T L (if tq_w T L (tq_e T L (tq_e T L p)) = 19 then tq_e T L (tq_e T L (tq_e T L p)) else tq_e T L (tq_e T L p)) (tq_Da D 2 3 6 (fun j => if j = 3 then i else if j = 4 then s else if j = 5 then tq_v T L (tq_e T L p) else if tq_w T L (tq_e T L (tq_e T L p)) = 19 then 1 else 0)) P B)) := by
  have a1 := (pk_NT_iff.mp h.2.1).2.2.1.1
  have e68 : q_X12_readsHole_68 N Y V r (nI i) (nI s) 1 = q_X12_readsHole_72 N Y N V r (nI i) (nI s) (nI 1) (nI 0) := rfl
  rw [e68]
  obtain ⟨l1, l2⟩ := pr_72 (N := N) hS h hD hi hs (D 2 0) 0 N (by omega) (by omega)
  constructor
  · rintro ⟨k, g1, g2⟩
    obtain ⟨V1, c1, c2, c3⟩ := l2 ⟨k, by omega, g1, g2⟩
    obtain ⟨V2, b1, b2, b3⟩ := pr_124F (N := N) (x1 := nI i) (x2 := nI s) hS hl (pr_needF (x := nI 1) hS c3) c3 ((c2.2.1 40 (by omega)).trans a1)
    exact ⟨V2, by rw [c1, b1], c2.toW.tr b2, b3⟩
  · intro q
    rw [l1 (fun ⟨k, _, g2⟩ => q ⟨k, g2⟩)]
    obtain ⟨V8, n1, n2, n3⟩ := pr_needY (N := N) hN hS h.1
    have ge := tq_e_gt (T := T) h.1.1.2.2.1 h.1.2.2.1 hk
    have h8 := h.frT n2 n3 (by omega)
    have a8 := (pk_NT_iff.mp h8.2.1).2.2.1.1
    have h17 : pk_LR r (bk_wI (bk_wI V8 (r + 8) (4 * D 2 0) (nI i)) (r + 8) (4 * D 2 0 + 1) (nI s)) T L (tq_e T L p) D P B := (h8.w8 (by omega)).w8 (by omega)
    obtain ⟨m1, m2⟩ := pr_nm (N := N) (lo := 1) (hi := 24) hN hS h17 (by omega) (by omega)
    have f17 : pk_frW r V (bk_wI (bk_wI V8 (r + 8) (4 * D 2 0) (nI i)) (r + 8) (4 * D 2 0 + 1) (nI s)) := (n2.toW.tr (pk_frW.wr (by omega))).tr (pk_frW.wr (by omega))
    constructor
    · intro q2
      obtain ⟨V21, c1, c2, c3⟩ := m2 q2
      have f2 : pk_FR r (bk_wI (bk_wI V21 (r + 8) (4 * D 2 0 + 2) (nI (tq_v T L (tq_e T L p)))) (r + 8) (4 * D 2 0 + 3) (nI 0)) (tq_no T L (tq_e T L p) 1 24) (tq_s T L (tq_e T L p)) := (c3.wr (by omega)).wr (by omega)
      refine ⟨_, ?_, ((f17.tr c2.toW).tr (pk_frW.wr (by omega))).tr (pk_frW.wr (by omega)), f2⟩
      rw [pr_124E hS hl n1 a8 c1, pr_goodN hS f2, pk_bs, if_pos rfl]
      unfold q_X12_readsHole_211
      rw [pk_ck hS.1, pr_goodN hS f2, pk_bs, if_pos (show nI 0 = (0 : Int32) from rfl)]
    · intro q2
      obtain ⟨V21, c1, c2, c3⟩ := m1 q2
      have h26 : pk_LR r (bk_wI (bk_wI V21 (r + 8) (4 * D 2 0 + 2) (nI (tq_v T L (tq_e T L p)))) (r + 8) (4 * D 2 0 + 3) (nI 0)) T L (tq_e T L (tq_e T L p)) D P B := (c3.w8 (by omega)).w8 (by omega)
      have f26 : pk_frW r V (bk_wI (bk_wI V21 (r + 8) (4 * D 2 0 + 2) (nI (tq_v T L (tq_e T L p)))) (r + 8) (4 * D 2 0 + 3) (nI 0)) := ((f17.tr c2.toW).tr (pk_frW.wr (by omega))).tr (pk_frW.wr (by omega))
      have v0 : bk_rI V21 (r + 8) (4 * D 2 0) = nI i := by
        rw [show bk_rI V21 (r + 8) (4 * D 2 0) = bk_rI (bk_wI (bk_wI V8 (r + 8) (4 * D 2 0) (nI i)) (r + 8) (4 * D 2 0 + 1) (nI s)) (r + 8) (4 * D 2 0) from congrFun (c2.1 (r + 8) (by omega)) _, pk_rI_same, if_neg (by omega), pk_rI_same, if_pos rfl]
      have v1 : bk_rI V21 (r + 8) (4 * D 2 0 + 1) = nI s := by
        rw [show bk_rI V21 (r + 8) (4 * D 2 0 + 1) = bk_rI (bk_wI (bk_wI V8 (r + 8) (4 * D 2 0) (nI i)) (r + 8) (4 * D 2 0 + 1) (nI s)) (r + 8) (4 * D 2 0 + 1) from congrFun (c2.1 (r + 8) (by omega)) _, pk_rI_same, if_pos rfl]
      have wb := tq_w_b (T := T) (L := L) (p := tq_e T L (tq_e T L p))
      have fin : ∀ (V36 : bk_Val) (q d : Nat), pk_LR r V36 T L q D P B → (∀ j, j < 4 * D 2 0 + 3 → bk_rI V36 (r + 8) j = bk_rI (bk_wI (bk_wI V21 (r + 8) (4 * D 2 0 + 2) (nI (tq_v T L (tq_e T L p)))) (r + 8) (4 * D 2 0 + 3) (nI 0)) (r + 8) j) → bk_rI V36 (r + 8) (4 * D 2 0 + 3) = nI d → q_X12_readsHole_211 N Y V36 r = some (bk_wI V36 r 40 (nI (D 2 0 + 1))) ∧ pk_LR r (bk_wI V36 r 40 (nI (D 2 0 + 1))) T L q (tq_Da D 2 3 6 (fun j => if j = 3 then i else if j = 4 then s else if j = 5 then tq_v T L (tq_e T L p) else d)) P B := by
        intro V36 q d h36 hr hd
        have a36 := (pk_NT_iff.mp h36.2.1).2.2.1.1
        constructor
        · unfold q_X12_readsHole_211
          rw [pk_ck hS.1, pr_goodY hS h36.1.2.2.2, pk_bs, if_neg pk_n10, a36, pk_letE]
          rw [show nI (D 2 0) + 1 = nI (D 2 0 + 1) from nI_add _ 1]
        · refine h36.rows (fun k q => by rw [pk_rI_same, if_neg (by omega)]) (fun a q1 q2 => pk_rowI q1) rfl (h36.2.1.w3 (fun a q1 q2 q3 => pk_rowI (by omega)) (fun k q1 q2 q3 => by rw [pk_rI_same, if_neg q3]) (by rw [pk_rI_same, if_pos rfl]) (fun k hk => by rw [pk_rI_ne (by omega)]) ?_ ?_ ?_ ?_)
          · rw [pk_rI_ne (by omega), hr _ (by omega), pk_rI_same, if_neg (by omega), pk_rI_same, if_neg (by omega)]
            exact v0
          · rw [pk_rI_ne (by omega), hr _ (by omega), pk_rI_same, if_neg (by omega), pk_rI_same, if_neg (by omega)]
            exact v1
          · rw [pk_rI_ne (by omega), hr _ (by omega), pk_rI_same, if_neg (by omega), pk_rI_same, if_pos rfl]
            rfl
          · rw [pk_rI_ne (by omega)]
            exact hd
      rw [pr_124E hS hl n1 a8 c1, pr_goodY hS h26.1.2.2.2, pk_bs, if_neg (show ¬ nI 1 = nI 0 by decide), pr_known hN hS h26.1.1.2.2.1 h26.1.2.2.1 h26.1.2.1, pk_bs]
      by_cases q3 : tq_w T L (tq_e T L (tq_e T L p)) = 19
      · rw [if_pos (show tq_wI (tq_w T L (tq_e T L (tq_e T L p))) = nI 19 by rw [tq_wI_eq (by omega) (by omega)]; exact q3)]
        have h33 : pk_LR r (bk_wI (bk_wI (bk_wI V21 (r + 8) (4 * D 2 0 + 2) (nI (tq_v T L (tq_e T L p)))) (r + 8) (4 * D 2 0 + 3) (nI 0)) (r + 8) (4 * D 2 0 + 3) (nI 1)) T L (tq_e T L (tq_e T L p)) D P B := h26.w8 (by omega)
        obtain ⟨V36, g1, g2, g3⟩ := pr_go (N := N) hN hS h33 (by rw [tq_w_k (by omega)]; omega)
        have hr : ∀ j, bk_rI V36 (r + 8) j = bk_rI (bk_wI (bk_wI (bk_wI V21 (r + 8) (4 * D 2 0 + 2) (nI (tq_v T L (tq_e T L p)))) (r + 8) (4 * D 2 0 + 3) (nI 0)) (r + 8) (4 * D 2 0 + 3) (nI 1)) (r + 8) j := fun j => congrFun (g2.1 (r + 8) (by omega)) j
        obtain ⟨k1, k2⟩ := fin V36 _ 1 g3 (fun j hj => by rw [hr, pk_rI_same, if_neg (by omega)]) (by rw [hr, pk_rI_same, if_pos rfl])
        refine ⟨_, by rw [g1, pk_bs, k1], ((f26.tr (pk_frW.wr (by omega))).tr g2.toW).tr (pk_frW.ws (by omega)), ?_⟩
        simp only [q3, if_true]
        exact k2
      · rw [if_neg (show ¬ tq_wI (tq_w T L (tq_e T L (tq_e T L p))) = nI 19 by rw [tq_wI_eq (by omega) (by omega)]; exact q3)]
        obtain ⟨k1, k2⟩ := fin _ _ 0 h26 (fun j hj => rfl) (by rw [pk_rI_same, if_pos rfl])
        refine ⟨_, k1, f26.tr (pk_frW.ws (by omega)), ?_⟩
        simp only [q3, if_false]
        exact k2
end
