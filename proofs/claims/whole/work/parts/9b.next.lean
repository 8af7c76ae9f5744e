/-! setting out; next; enough -/
section
variable {N z t u s tl r a b c d k n j h m l p q q0 md wa s' i f e gg v : Nat} {Y Y' : bk_Lay} {V V' V2 W : bk_Val} {x y x1 x2 x3 x4 x5 : Int32} {w1 w2 : Int64} {D : Nat → Nat → Nat} {P : Nat → List Nat} {T T' w R G : Nat → Nat} {st st' g : pk_St} {hs hs' : List pk_St} {img img' : Option (pk_St × List pk_St)} {pl : Option (Nat → Nat)} {fp r0 r1 : Int32} {A B : pk_A}
theorem pc_bg30 (hN : 1000 ≤ N) (hM : pk_Mn Y z) (h4 : bk_rR Y (z + 3) 4 = some t) (hS : pk_Sd Y t) (hT : pk_CT V t D P) (hB : pk_DB D P) (hsh : bk_sh Y wa = (3, 4 * D 0 0)) (hwa : wa ≠ z + 5) (hv : ∀ p, p < 4 * D 0 0 → bk_rL V (z + 4) p = lN (w p)) (hw : ∀ p, p < 4 * D 0 0 → bk_rL V wa p = lN (w p)) : ∃ V1, q_X3_begin_30 N N Y V (z + 3) wa 0 = some (Y, bk_wI (bk_wI (bk_wL V1 (z + 7) 0 (lN (sp_tot D w))) (z + 3) 5 (nI 0)) (z + 3) 6 (nI 1)) ∧ V1.1 = V.1 ∧ (∀ b, b ≠ z + 5 → V1.2 b = V.2 b) ∧ ∀ j, j < D 0 0 → bk_rL V1 (z + 5) j = lN (sp_in w j) := by
  have b0 := hB.1
  refine loop_i (σ := bk_Val) (fun fu j V1 => ∃ V', q_X3_begin_30 N fu Y V1 (z + 3) wa (nI j) = some (Y, bk_wI (bk_wI (bk_wL V' (z + 7) 0 (lN (sp_tot D w))) (z + 3) 5 (nI 0)) (z + 3) 6 (nI 1)) ∧ V'.1 = V.1 ∧ (∀ b, b ≠ z + 5 → V'.2 b = V.2 b) ∧ ∀ j, j < D 0 0 → bk_rL V' (z + 5) j = lN (sp_in w j)) (fun j V1 => V1.1 = V.1 ∧ (∀ b, b ≠ z + 5 → V1.2 b = V.2 b) ∧ ∀ i, i < j → bk_rL V1 (z + 5) i = lN (sp_in w i)) (D 0 0) ?_ ?_ N 0 V (by omega) (by omega) ⟨rfl, fun _ _ => rfl, fun i hi => by omega⟩
  · intro fu V1 hV
    have hT1 : pk_CT V1 t D P := by
      have q := hT
      unfold pk_CT pk_CR bk_rI at q ⊢
      rw [hV.1]
      exact q
    have ht : q_X0_total N Y V1 wa = some (lN (sp_tot D w)) := pc_total hN hsh (by omega) (fun p hp => by
      rw [← hw p hp]
      exact congrFun (hV.2.1 wa hwa) p)
    refine ⟨V1, ?_, hV⟩
    rw [q_X3_begin_30]
    simp (disch := omega) only [hM, h4, bk_nl, hS, pk_ckT, pk_bs, pk_letE, pk_bd2E, pk_bd3E, if_true, if_false, eq_self, not_true_eq_false, not_false_eq_true, true_and, and_true, Nat.not_lt_zero, Nat.zero_le, Nat.reduceEqDiff, Nat.reduceLT, Nat.reduceLeDiff, pk_ck, pc_inches hS hT1, nI_leI, Nat.le_refl, ht, pk_lit, nI_add, pk_mul, nI_clamp, nI_leI, nI_ltI, nI_eq, pk_div, pk_remE, pk_inE, pk_sub]
  · intro fu j V1 hj hV ih
    have hT1 : pk_CT V1 t D P := by
      have q := hT
      unfold pk_CT pk_CR bk_rI at q ⊢
      rw [hV.1]
      exact q
    have ho : q_X0_totalOfInch N Y V1 (z + 4) (nI j) = some (lN (sp_in w j)) := pc_ofInch (N := N) (n := 336) hN (by simp only [hM]) (by omega) (by omega) (fun p h1 h2 => by
      rw [← hv p (by omega)]
      exact congrFun (hV.2.1 (z + 4) (by omega)) p)
    rw [q_X3_begin_30]
    simp (disch := omega) only [hM, h4, bk_nl, hS, pk_ckT, pk_bs, pk_letE, pk_bd2E, pk_bd3E, if_true, if_false, eq_self, not_true_eq_false, not_false_eq_true, true_and, and_true, Nat.not_lt_zero, Nat.zero_le, Nat.reduceEqDiff, Nat.reduceLT, Nat.reduceLeDiff, pk_ck, pc_inches hS hT1, pk_lit, nI_add, pk_mul, nI_clamp, nI_leI, nI_ltI, nI_eq, pk_div, pk_remE, pk_inE, pk_sub, ho]
    rw [if_neg (by omega)]
    refine ih _ ⟨hV.1, fun b hb => (pk_rowL hb).trans (hV.2.1 b hb), fun i hi => ?_⟩
    rw [pk_rL_same]
    by_cases c : i = j
    · rw [if_pos c, c]
    · rw [if_neg c]
      exact hV.2.2 i (by omega)
theorem pc_setOut (hN : 20000 ≤ N) (hJ : pk_JC z Y V t u s D P T tl st hs img pl fp r0 r1) (hB : pk_JB D P T tl st hs img) : ∃ Y' V' k, q_X11_setOut N Y V z = some (Y', V') ∧ pk_offR z V V' ∧ pk_JQ z Y' V' t u s D P T tl st hs img pl fp r0 r1 k := by
  obtain ⟨hM, hS, hz, hT, hs5, -⟩ := hJ.o
  obtain ⟨wa, w1, w2, w3, w4⟩ := hJ.ww
  have b0 := hB.1.1
  have hn := hJ.ne
  rcases hJ.2.2.2.2.2.2.2.2.2.2 with h6 | ⟨o1, o2, k, o3, o4⟩
  · have hwa : wa ≠ z + 3 ∧ wa ≠ z + 4 ∧ wa ≠ z + 5 ∧ wa ≠ z + 7 := by have := w2.1; omega
    have hF1 : pk_Fix z (bk_wR Y (z + 3) 4 (some t)) := hJ.1.wR (Or.inr (Or.inl ⟨rfl, by omega⟩))
    have hM1 := hF1.mn
    have hS1 : pk_Sd (bk_wR Y (z + 3) 4 (some t)) t := by
      rcases hn with ⟨rfl, -⟩ | ⟨rfl, -⟩
      · exact hF1.sd0
      · exact hF1.sd1
    have h4 : bk_rR (bk_wR Y (z + 3) 4 (some t)) (z + 3) 4 = some t := by rw [pk_rR_wR, if_pos ⟨rfl, rfl⟩]
    have hsh : bk_sh (bk_wR Y (z + 3) 4 (some t)) wa = (3, 4 * D 0 0) := w3
    obtain ⟨VC, hVC⟩ : ∃ VC, VC = bk_cpL V wa (z + 4) 0 0 (4 * D 0 0) := ⟨_, rfl⟩
    have c1 : VC.1 = V.1 := by rw [hVC]; rfl
    have c2 : ∀ b, b ≠ z + 4 → VC.2 b = V.2 b := fun b hb => by rw [hVC]; exact va_up_ne _ _ hb
    have c3 : ∀ p, p < 4 * D 0 0 → bk_rL VC (z + 4) p = lN (st.2.2.2 p) := fun p hp => by
      rw [hVC, ← w4 p hp]
      show va_up V.2 (z + 4) _ (z + 4) p = _
      rw [va_up_self, pk_cpy_in (by omega) (by omega), Nat.zero_add, Nat.sub_zero]
      rfl
    have c4 : ∀ p, p < 4 * D 0 0 → bk_rL VC wa p = lN (st.2.2.2 p) := fun p hp => by
      rw [← w4 p hp]
      exact congrFun (c2 wa hwa.2.1) p
    have hT1 : pk_CT VC t D P := by
      have q := hT
      unfold pk_CT pk_CR bk_rI at q ⊢
      rw [c1]
      exact q
    obtain ⟨V1, e1, e2, e3, e4⟩ := pc_bg30 (N := N) (Y := bk_wR Y (z + 3) 4 (some t)) (V := VC) (wa := wa) (w := st.2.2.2) (by omega) hM1 h4 hS1 hT1 hB.1 hsh hwa.2.2.1 c3 c4
    obtain ⟨VF, hVF⟩ : ∃ VF, VF = bk_wI (bk_wI (bk_wL V1 (z + 7) 0 (lN (sp_tot D st.2.2.2))) (z + 3) 5 (nI 0)) (z + 3) 6 (nI 1) := ⟨_, rfl⟩
    rw [← hVF] at e1
    have rI : ∀ a, a ≠ z + 3 → VF.1 a = V.1 a := fun a q => by
      rw [hVF, pk_rowI q, pk_rowI q]
      show V1.1 a = _
      rw [e2, c1]
    have rL : ∀ a, a ≠ z + 4 → a ≠ z + 5 → a ≠ z + 7 → VF.2 a = V.2 a := fun a q1 q2 q3 => by
      rw [hVF]
      show (bk_wL V1 (z + 7) 0 _).2 a = _
      rw [pk_rowL q3, e3 a q2, c2 a q1]
    refine ⟨bk_wR Y (z + 3) 4 (some t), VF, 0, ?_, fun a q1 q2 => ⟨rI a (by omega), rL a (by omega) (by omega) (by omega)⟩, hJ.j0.of hF1 (fun k => by rw [pk_rR_wR, if_neg (by omega)]) ⟨Nat.le_refl _, fun a ha => ⟨rfl, pk_rowR (by have := ha.1; omega), rI a (by have := ha.1; omega), rL a (by have := ha.1; omega) (by have := ha.1; omega) (by have := ha.1; omega)⟩⟩ (fun a _ _ _ _ _ _ q => rI a (by omega)), ⟨?_, h4, by omega⟩, ?_, ?_, ?_, ?_, ?_⟩
    · have h3 : (bk_sh (bk_wR Y (z + 3) 4 (some t)) wa).1 = 3 ∧ (bk_sh (bk_wR Y (z + 3) 4 (some t)) wa).2 = 4 * D 0 0 := by rw [hsh]; exact ⟨rfl, rfl⟩
      have h5 : (bk_sh (bk_wR Y (z + 3) 4 (some t)) (z + 4)).1 = 3 ∧ (bk_sh (bk_wR Y (z + 3) 4 (some t)) (z + 4)).2 = 336 := by simp only [hM1]; exact ⟨trivial, trivial⟩
      have hr0 : bk_rR (bk_wR Y (z + 3) 4 (some t)) (z + 3) 0 = some (z + 4) := by simp only [hM1]
      have hb : q_X3_begin N Y V (z + 3) t wa = some (bk_wR Y (z + 3) 4 (some t), VF) := by
        unfold q_X3_begin
        rw [pk_ck (by simp only [hM]), pk_letE, pk_ck h3.1, hr0, pk_bs, pk_ck h5.1, h3.2, h5.2, pc_min (by omega) (by omega), pk_bs, Nat.min_eq_left (by omega), nI_clamp (by omega), pk_ck ⟨by decide, by decide, nI_pos (by omega), by show 0 + 4 * D 0 0 ≤ 4 * D 0 0; omega, by show 0 + 4 * D 0 0 ≤ 336; omega⟩, pk_letE]
        show q_X3_begin_30 N N (bk_wR Y (z + 3) 4 (some t)) (bk_cpL V wa (z + 4) 0 0 (4 * D 0 0)) (z + 3) wa 0 = _
        rw [← hVC]
        exact e1
      simp only [q_X11_setOut, hM, pk_ckT, pk_bs, pk_letE, pk_bd2E, pk_bd3E, if_true, if_false, eq_self, not_true_eq_false, not_false_eq_true, true_and, and_true, Nat.not_lt_zero, Nat.zero_le, Nat.reduceEqDiff, Nat.reduceLT, Nat.reduceLeDiff, pk_ck, h6, pk_lit, hz, hs5, w1, hb]
    · rw [hVF, pk_rI_same, if_pos rfl]
    · rw [hVF, pk_rI_same, if_neg (by omega), pk_rI_same, if_pos rfl]
    · intro i hi
      omega
    · intro i hi
      rw [show i = 0 by omega, hVF, pk_rL_wI, pk_rL_wI, pk_rL_same, if_pos rfl]
      rfl
    · intro p hp
      rw [hVF, pk_rL_wI, pk_rL_wI, pk_rL_ne (by omega)]
      show V1.2 (z + 4) p = _
      rw [e3 (z + 4) (by omega)]
      exact c3 p hp
    · intro i hi
      rw [hVF, pk_rL_wI, pk_rL_wI, pk_rL_ne (by omega)]
      exact e4 i hi
  · refine ⟨Y, V, k, ?_, pk_offR.rf, hJ.j0, ⟨o1, o2, o3⟩, o4⟩
    simp only [q_X11_setOut, hM, pk_ckT, pk_bs, pk_letE, pk_bd2E, pk_bd3E, if_true, if_false, eq_self, not_true_eq_false, not_false_eq_true, true_and, and_true, Nat.not_lt_zero, Nat.zero_le, Nat.reduceEqDiff, Nat.reduceLT, Nat.reduceLeDiff, pk_ck, o1, pk_lit]
    rw [if_neg (by decide)]
/-! how long one stays -/
def sp_wh (c : Nat → Bool) : Nat → Nat → Nat
  | 0, k => k
  | n + 1, k => if c k then sp_wh c n (k + 1) else k
def sp_sty (D : Nat → Nat → Nat) (w : Nat → Nat) (j : Nat) : Bool := decide (sp_next D (sp_rt D w j) = sp_next D (sp_rt D w 0))
theorem pc_stay (hN : 20000 ≤ N) (h : pk_JQ z Y V t u s D P T tl st hs img pl fp r0 r1 k) (hB : pk_JB D P T tl st hs img) : ∃ V' k', q_X3_firstStay N Y V (z + 3) = some (nI (sp_wh (sp_sty D st.2.2.2) 600 0), V') ∧ pk_offR z V V' ∧ pk_JQ z Y V' t u s D P T tl st hs img pl fp r0 r1 k' := by
  have hM := h.o.1
  have b0 := hB.1.1
  have hlt : ∀ j, sp_next D (sp_rt D st.2.2.2 j) < D 0 0 := fun j => sp_next_lt hB.1
  have h0 := hlt 0
  obtain ⟨V1, k1, e1, e2, e3⟩ := pc_inchIn (N := N) (i := 0) hN h hB (by omega)
  have e0 : q_X3_firstStay N Y V (z + 3) = q_X3_firstStay_8 N Y N V1 (z + 3) (nI (sp_next D (sp_rt D st.2.2.2 0))) (nI 1) := by
    simp only [q_X3_firstStay, hM, pk_ckT, pk_bs, pk_letE, pk_bd2E, pk_bd3E, if_true, if_false, eq_self, not_true_eq_false, not_false_eq_true, true_and, and_true, Nat.not_lt_zero, Nat.zero_le, Nat.reduceEqDiff, Nat.reduceLT, Nat.reduceLeDiff, pk_ck, pk_lit, e1]
  rw [e0, show sp_wh (sp_sty D st.2.2.2) 600 0 = sp_wh (sp_sty D st.2.2.2) (600 - 1) 1 from if_pos (decide_eq_true rfl)]
  refine loop_i (σ := bk_Val) (fun fu j V2 => ∃ V' k', q_X3_firstStay_8 N Y fu V2 (z + 3) (nI (sp_next D (sp_rt D st.2.2.2 0))) (nI j) = some (nI (sp_wh (sp_sty D st.2.2.2) (600 - j) j), V') ∧ pk_offR z V V' ∧ pk_JQ z Y V' t u s D P T tl st hs img pl fp r0 r1 k') (fun j V2 => pk_offR z V V2 ∧ ∃ k', pk_JQ z Y V2 t u s D P T tl st hs img pl fp r0 r1 k') 600 ?_ ?_ N 1 V1 (by omega) (by omega) ⟨e2, k1, e3⟩
  · intro fu V2 hV
    obtain ⟨g1, k2, g2⟩ := hV
    exact ⟨V2, k2, by rw [q_X3_firstStay_8, if_pos (by decide)]; rfl, g1, g2⟩
  · intro fu j V2 hj hV ih
    obtain ⟨g1, k2, g2⟩ := hV
    obtain ⟨V3, k3, f1, f2, f3⟩ := pc_inchIn (N := N) (i := j) hN g2 hB hj
    have hl := hlt j
    rw [q_X3_firstStay_8]
    simp (disch := omega) only [hM, pk_ckT, pk_bs, pk_letE, pk_bd2E, pk_bd3E, if_true, if_false, eq_self, not_true_eq_false, not_false_eq_true, true_and, and_true, Nat.not_lt_zero, Nat.zero_le, Nat.reduceEqDiff, Nat.reduceLT, Nat.reduceLeDiff, pk_ck, pk_lit, nI_add, pk_mul, nI_clamp, nI_leI, nI_ltI, nI_eq, pk_div, pk_remE, pk_inE, pk_sub, f1]
    rw [if_neg (by omega), show 600 - j = (600 - (j + 1)) + 1 by omega]
    unfold sp_wh
    by_cases c : sp_next D (sp_rt D st.2.2.2 j) = sp_next D (sp_rt D st.2.2.2 0)
    · rw [if_pos c, if_pos (show sp_sty D st.2.2.2 j = true from decide_eq_true c)]
      exact ih V3 ⟨g1.tr f2, k3, f3⟩
    · rw [if_neg c, if_neg (show ¬ sp_sty D st.2.2.2 j = true from fun q => c (of_decide_eq_true q))]
      exact ⟨V3, k3, rfl, g1.tr f2, f3⟩
theorem pr_n47 (hN : 1000 ≤ N) (hS : pk_Rf Y r) (hT : pk_RT V r D P) (hB : pk_DB D P) (hF : ∀ p, w p ≤ 1000000000000000) (hc : pk_Cp r V D w 0) : ∃ V', q_X12_next_47 N Y N V r (nI (sp_next D (sp_rt D w 0))) 0 = some (nI (sp_wh (sp_sty D w) 600 0), V') ∧ pk_frR r V V' := by
  have b0 := hB.1
  have hlt : ∀ j, sp_next D (sp_rt D w j) < D 0 0 := fun j => sp_next_lt hB
  have h0 := hlt 0
  refine loop_i (σ := bk_Val) (fun fu j V2 => ∃ V', q_X12_next_47 N Y fu V2 r (nI (sp_next D (sp_rt D w 0))) (nI j) = some (nI (sp_wh (sp_sty D w) (600 - j) j), V') ∧ pk_frR r V V') (fun j V2 => pk_frR r V V2 ∧ pk_Cp r V2 D w j) 600 ?_ ?_ N 0 V (by omega) (by omega) ⟨pk_frR.rf, hc⟩
  · intro fu V2 hV
    exact ⟨V2, by rw [q_X12_next_47, if_pos (by decide)]; rfl, hV.1⟩
  · intro fu j V2 hj hV ih
    obtain ⟨g1, g2⟩ := hV
    obtain ⟨V3, f1, f2, -, f3⟩ := pr_nextJ (N := N) hN hS (hT.fr g1) hB hF g2
    obtain ⟨V4, d1, d2, -, d3⟩ := pr_dipJ (N := N) hN hS ((hT.fr g1).fr f2) hB hF f3
    have hl := hlt j
    rw [q_X12_next_47]
    simp (disch := omega) only [hS, pk_ckT, pk_bs, pk_letE, pk_bd2E, pk_bd3E, if_true, if_false, eq_self, not_true_eq_false, not_false_eq_true, true_and, and_true, Nat.not_lt_zero, Nat.zero_le, Nat.reduceEqDiff, Nat.reduceLT, Nat.reduceLeDiff, pk_ck, pk_lit, nI_add, pk_mul, nI_clamp, nI_leI, nI_ltI, nI_eq, pk_div, pk_remE, pk_inE, pk_sub, f1]
    rw [if_neg (by omega), show 600 - j = (600 - (j + 1)) + 1 by omega]
    unfold sp_wh
    by_cases c : sp_next D (sp_rt D w j) = sp_next D (sp_rt D w 0)
    · rw [if_pos c, if_pos (show sp_sty D w j = true from decide_eq_true c), ← c, d1, pk_bs, c]
      exact ih V4 ⟨(g1.tr f2).tr d2, d3⟩
    · rw [if_neg c, if_neg (show ¬ sp_sty D w j = true from fun q => c (of_decide_eq_true q))]
      exact ⟨V3, rfl, g1.tr f2⟩
theorem st_14 (hN : 20000 ≤ N) (hI : pk_IA z Y V) : bk_st14 N z (z + 58) (z + 86) Y V x1 x2 x3 x4 x5 (pk_IA z) := by
  obtain ⟨t, u, s, D, P, T, tl, st, hs, img, pl, fp, r0, r1, hJ, hR, hB, hC, hRA, hBA⟩ := hI.e
  obtain ⟨hM, hS, hz, hT, hs5, -⟩ := hJ.o
  obtain ⟨wa, w1, w2, w3, w4⟩ := hJ.ww
  have b0 := hB.1.1
  have hF := hB.2.2.1.1.2.2.1
  rcases pk_ix2 x1 (n := 3) (by omega) with hx | ⟨j, hj, rfl⟩
  · have ho : ¬ (nI 0 ≤ x1 ∧ x1 ≤ nI 2) := pk_out hx (by omega) (by omega)
    refine ⟨.inl 1, ?_, (fun e he => by cases he; rfl), pk_stT hC hRA hBA rfl (k := 1) (by decide) (v := nI 0) (fun Y1 V1 h1 h2 => ⟨_, ?_, pk_frR.rf⟩)⟩
    · simp only [q_X11_next, pc_isWithin, pk_bs, pk_lit, pc_needE]
      rw [if_neg ho, pk_bdxL]
    · simp only [q_X12_next, h1, pk_ckT, eq_self, pk_letE, pk_lit]
      rw [pr_isWhat h1 pk_w0, pk_bd2E, if_neg ho, pk_Bf ho, if_pos rfl]
  · have hin : nI 0 ≤ nI j ∧ nI j ≤ nI 2 := pk_inn hj (by omega) rfl
    have hw' : ∀ Y1 V1, pk_Rf Y1 (z + 58) → q_X12_isWhat N Y1 (bk_wI V1 (z + 58) 0 (nI 0)) (z + 58) (nI j) (nI 2) = some (nI 1, bk_wI V1 (z + 58) 0 (nI 0)) := fun Y1 V1 h1 => by rw [pr_isWhat h1 pk_w0, if_pos hin, pk_Bt hin]
    by_cases c0 : j = 0
    · subst c0
      have lk := pc_likeliest (N := N) (Y := Y) (V := V) (wa := wa) (w := st.2.2.2) (n := 4 * D 0 0) (by omega) w3 (by omega) (fun p => Nat.le_trans (hF p) (by omega)) w4
      refine ⟨.inr (nI (sp_best st.2.2.2 (4 * D 0 0)), Y, V), ?_, (fun e he => by cases he), pk_stQ hC hRA hBA ⟨hC, pk_offR.rf⟩ rfl (fun Y1 V1 h1 h2 => ⟨_, ?_, pk_frR.rf⟩)⟩
      · simp only [q_X11_next, pc_isWithin, pk_bs, pk_lit, pc_needE]
        rw [if_pos hin, pk_bdxR, if_true]
        simp only [hM, hz, hs5, pk_ckT, pk_bs, pk_letE, pk_bd2E, pk_bd3E, if_true, if_false, eq_self, not_true_eq_false, not_false_eq_true, true_and, and_true, Nat.not_lt_zero, Nat.zero_le, Nat.reduceEqDiff, Nat.reduceLT, Nat.reduceLeDiff, pk_ck, w1, lk]
      · have h3 : pk_JR (z + 58) (bk_wI V1 (z + 58) 0 (nI 0)) D P T tl st hs img pl fp r0 r1 := pk_JR.w0 h2
        have lr := pr_likeliest (N := N) (w := st.2.2.2) (by omega) h1 h3.1.1.1 b0 (fun p => Nat.le_trans (hF p) (by omega)) (fun p hp => h3.2.2.1.2.2.2 p (by omega))
        simp only [q_X12_next, h1, pk_ckT, eq_self, pk_letE, pk_lit]
        rw [hw' Y1 V1 h1, pk_bd2E, if_neg (by decide), if_true, lr, pk_bs]
    · obtain ⟨Y', V', k, s1, s2, s3⟩ := pc_setOut hN hJ hB
      have hM1 := s3.o.1
      by_cases c1 : j = 1
      · subst c1
        obtain ⟨V2, k2, i1, i2, i3⟩ := pc_inchIn (N := N) (i := 0) hN s3 hB (by omega)
        refine ⟨.inr (nI (sp_next D (sp_rt D st.2.2.2 0)), Y', V2), ?_, (fun e he => by cases he), pk_stQ hC hRA hBA ⟨⟨t, u, s, i3.jc⟩, s2.tr i2⟩ rfl (fun Y1 V1 h1 h2 => ?_)⟩
        · simp only [q_X11_next, pc_isWithin, pk_bs, pk_lit, pc_needE]
          rw [if_pos hin, pk_bdxR, if_neg (by decide)]
          simp only [hM, pk_ckT, eq_self, s1, pk_bd2E, hM1, pk_ckT, pk_bs, pk_letE, pk_bd2E, pk_bd3E, if_true, if_false, eq_self, not_true_eq_false, not_false_eq_true, true_and, and_true, Nat.not_lt_zero, Nat.zero_le, Nat.reduceEqDiff, Nat.reduceLT, Nat.reduceLeDiff, pk_ck, i1]
        · have h3 : pk_JR (z + 58) (bk_wI V1 (z + 58) 0 (nI 0)) D P T tl st hs img pl fp r0 r1 := pk_JR.w0 h2
          obtain ⟨V3, a1, a2, -, a3⟩ := pr_copyJ (N := N) (by omega) h1 h3
          obtain ⟨V4, n1, n2, -, n3⟩ := pr_nextJ (N := N) (by omega) h1 (h3.1.fr a2) hB.1 hF a3
          refine ⟨V4, ?_, a2.tr n2⟩
          simp only [q_X12_next, h1, pk_ckT, eq_self, pk_letE, pk_lit]
          rw [hw' Y1 V1 h1, pk_bd2E, if_neg (by decide), if_neg (by decide), a1, pk_bs]
          simp only [h1, pk_ckT, pk_bs, pk_letE, pk_bd2E, pk_bd3E, if_true, if_false, eq_self, not_true_eq_false, not_false_eq_true, true_and, and_true, Nat.not_lt_zero, Nat.zero_le, Nat.reduceEqDiff, Nat.reduceLT, Nat.reduceLeDiff, pk_ck, n1]
      · have c2 : j = 2 := by omega
        subst c2
        obtain ⟨V2, k2, i1, i2, i3⟩ := pc_stay (N := N) hN s3 hB
        refine ⟨.inr (nI (sp_wh (sp_sty D st.2.2.2) 600 0), Y', V2), ?_, (fun e he => by cases he), pk_stQ hC hRA hBA ⟨⟨t, u, s, i3.jc⟩, s2.tr i2⟩ rfl (fun Y1 V1 h1 h2 => ?_)⟩
        · simp only [q_X11_next, pc_isWithin, pk_bs, pk_lit, pc_needE]
          rw [if_pos hin, pk_bdxR, if_neg (by decide)]
          simp only [hM, pk_ckT, eq_self, s1, pk_bd2E, hM1, pk_ckT, pk_bs, pk_letE, pk_bd2E, pk_bd3E, if_true, if_false, eq_self, not_true_eq_false, not_false_eq_true, true_and, and_true, Nat.not_lt_zero, Nat.zero_le, Nat.reduceEqDiff, Nat.reduceLT, Nat.reduceLeDiff, pk_ck, i1, show (nI 2 = nI 1) = False from eq_false (by decide)]
        · have h3 : pk_JR (z + 58) (bk_wI V1 (z + 58) 0 (nI 0)) D P T tl st hs img pl fp r0 r1 := pk_JR.w0 h2
          obtain ⟨V3, a1, a2, -, a3⟩ := pr_copyJ (N := N) (by omega) h1 h3
          obtain ⟨V4, n1, n2, -, n3⟩ := pr_nextJ (N := N) (by omega) h1 (h3.1.fr a2) hB.1 hF a3
          obtain ⟨V5, l1, l2⟩ := pr_n47 (N := N) (by omega) h1 ((h3.1.fr a2).fr n2) hB.1 hF n3
          refine ⟨V5, ?_, (a2.tr n2).tr l2⟩
          simp only [q_X12_next, h1, pk_ckT, eq_self, pk_letE, pk_lit]
          rw [hw' Y1 V1 h1, pk_bd2E, if_neg (by decide), if_neg (by decide), a1, pk_bs]
          simp only [h1, pk_ckT, pk_bs, pk_letE, pk_bd2E, pk_bd3E, if_true, if_false, eq_self, not_true_eq_false, not_false_eq_true, true_and, and_true, Nat.not_lt_zero, Nat.zero_le, Nat.reduceEqDiff, Nat.reduceLT, Nat.reduceLeDiff, pk_ck, n1]
          rw [if_neg (by decide)]
          exact l1
end
