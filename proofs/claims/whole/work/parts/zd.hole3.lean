/-! the lines: holes, both; riders -/
section
variable {N z t u s r a b c d k n j h m l p q q0 md wa s' i f gg v S L g lo hi w e : Nat} {Y Y2 Y' : bk_Lay} {V V' V1 V2 V8 V21 : bk_Val} {x y x1 x2 x3 x4 x5 ee : Int32} {T T' R G In : Nat → Nat} {D D' : Nat → Nat → Nat} {P P' : Nat → List Nat} {B B' : Nat → Bool} {K : List Nat} {o : pk_O} {X : Option (Int32 × bk_Val)} {XR : Option bk_Val}
theorem pc_holeE (H : pk_cL N z u Y) (h : pk_LC z u V T L p D P B) (hl : D 2 0 ≤ 6) : q_X8_readHole N Y V (z + 54) = if D 2 0 < 6 then (q_X9_step N Y V (z + 55)).bind (fun V_20 => (q_X5_inches N Y V_20 u).bind fun r_23 => bk_bd2 (q_X8_readNumber N Y V_20 (z + 54) (nI 0) (r_23 - nI 1)) fun r_25 V_26 => if r_25 = nI 0 then some (nI 0, V_26) else (q_X8_sideNamed N Y V_26 (z + 54)).bind fun r_28 => if r_28 = -nI 1 then bk_bd2 (q_X8_refuse N Y V_26 (z + 54) (nI 1)) (fun r_20 V_21 => bk_ck (r_20 = nI 0 ∨ r_20 = nI 1) (some (r_20, V_21))) else (q_X1_isAt N Y V_26 (u + 3) (bk_rI V_26 (z + 54) 3) r_28).bind fun r_30 => if r_30 = nI 0 then (q_X9_step N Y V_26 (z + 55)).bind fun V_32 => bk_bd2 (q_X8_readNumber N Y V_32 (z + 54) (nI 1) (nI 24)) fun r_34 V_35 => if r_34 = nI 0 then some (nI 0, V_35) else (q_X9_isWord N Y V_35 (z + 55) 26).bind fun r_37 => if r_37 = nI 0 then q_X8_readHole_129 N Y V_35 (z + 54) (bk_rI V_26 (z + 54) 3) r_28 r_37 else (q_X9_step N Y V_35 (z + 55)).bind fun V_39 => q_X8_readHole_129 N Y V_39 (z + 54) (bk_rI V_26 (z + 54) 3) r_28 r_37 else bk_bd2 (q_X8_refuse N Y V_26 (z + 54) (nI 4)) (fun r_20 V_21 => bk_ck (r_20 = nI 0 ∨ r_20 = nI 1) (some (r_20, V_21)))) else bk_bd2 (q_X8_refuse N Y V (z + 54) (nI 2)) (fun r_20 V_21 => bk_ck (r_20 = nI 0 ∨ r_20 = nI 1) (some (r_20, V_21))) := by
  obtain ⟨hN, hM, hS, hi, u1, u2⟩ := H
  have e1 : bk_rI V (u + 3) 4 = nI (D 2 0) := (pk_CT_iff.mp h.2.1).2.2.1.1
  unfold q_X8_readHole
  simp (disch := omega) only [hM, hS, hi, pk_ckT, pk_bs, pk_letE, pk_bd2E, pk_bd3E, if_true, if_false, eq_self, not_true_eq_false, not_false_eq_true, true_and, and_true, Nat.not_lt_zero, Nat.zero_le, Nat.reduceEqDiff, Nat.reduceLT, Nat.reduceLeDiff, pk_ck, pk_lit, e1, nI_ltI]
theorem pc_129 (H : pk_cL N z u Y) (h3 : bk_rI V (z + 54) 3 = x) : q_X8_readHole_129 N Y V (z + 54) x1 x2 x3 = (q_X1_add N Y V (u + 3) x1 x2 x x3).bind fun V_8 => some (nI 1, V_8) := by
  obtain ⟨hN, hM, hS, hi, u1, u2⟩ := H
  unfold q_X8_readHole_129
  simp only [hM, hS, hi, pk_ckT, pk_bs, pk_letE, pk_bd2E, pk_bd3E, if_true, if_false, eq_self, not_true_eq_false, not_false_eq_true, true_and, and_true, Nat.not_lt_zero, Nat.zero_le, Nat.reduceEqDiff, Nat.reduceLT, Nat.reduceLeDiff, pk_ck, pk_lit, h3]
theorem pc_inch (H : pk_cL N z u Y) (h : pk_LC z u V T L p D P B) (hD : pk_DB D P) : q_X5_inches N Y V u = some (nI (D 0 0)) ∧ nI (D 0 0) - nI 1 = nI (D 0 0 - 1) := by
  obtain ⟨hN, hM, hS, hi, u1, u2⟩ := H
  have e00 : bk_rI V (u + 1) 0 = nI (D 0 0) := h.2.1.1 0 (by omega)
  have d0 := hD.1
  refine ⟨?_, pk_sub (by omega)⟩
  unfold q_X5_inches
  simp (disch := omega) only [hS, pk_ckT, pk_bs, pk_letE, pk_bd2E, pk_bd3E, if_true, if_false, eq_self, not_true_eq_false, not_false_eq_true, true_and, and_true, Nat.not_lt_zero, Nat.zero_le, Nat.reduceEqDiff, Nat.reduceLT, Nat.reduceLeDiff, pk_ck, pk_lit, nI_clamp, pk_inE, e00]
theorem ln_hole (H : pk_lH N z u Y T L p D P B) (hw : tq_w T L p = 18) : pk_ln N z u r Y T L p D P B := by
  have ee := H.ends
  obtain ⟨hN, hC, hL, hp, hD, hP0, hP1, hk⟩ := H
  have ⟨hN1, hM, hSd, hi, u1, u2⟩ := hC
  obtain ⟨d2, -⟩ := (pk_DB_iff.mp hD).2.2.1
  have d0 := hD.1
  by_cases q0 : D 2 0 < 6
  rotate_left
  · refine ⟨tq_oF 2 (tq_s T L p), pk_oB.F (by omega), fun V h => ?_, fun Y2 V hS h => ?_⟩
    · rw [pc_line18 hC h.1 hw]
      refine pc_sgn hC ?_
      rw [pc_holeE hC h d2, if_neg q0]
      exact pc_ref hC h (by omega)
    · rw [pr_line18 (by omega) hS h.1 hw]
      obtain ⟨V1, w1, w2, w3, -, -⟩ := pr_wrongY (N := N) (k := 2) hS h.1 (by omega)
      refine pk_oK.F (by omega) ?_ w2.toW w3
      have a1 := (pk_NT_iff.mp h.2.1).2.2.1.1
      unfold q_X12_readsHole
      rw [pk_ck hS.1, a1, if_pos (show nI (D 2 0) = (6 : Int32) by rw [show D 2 0 = 6 by omega]; rfl), show q_X12_wrong N Y2 V r 2 = some V1 from w1, pk_bs]
      unfold q_X12_readsHole_14
      rw [pk_ck hS.1, pr_goodN hS w3, pk_bs, if_pos (show nI 0 = (0 : Int32) from rfl), pk_bs, pr_384F hS w3]
  by_cases q1 : tq_no T L (tq_e T L p) 0 (D 0 0 - 1) = 0
  rotate_left
  · refine ⟨tq_oF (tq_no T L (tq_e T L p) 0 (D 0 0 - 1)) (tq_s T L (tq_e T L p)), pk_oB.F q1, fun V h => ?_, fun Y2 V hS h => ?_⟩
    · rw [pc_line18 hC h.1 hw]
      refine pc_sgn hC ?_
      obtain ⟨V1, a1, a2, a3⟩ := pc_go hC h
      obtain ⟨V2, b1, b2, b3⟩ := (pc_nm (lo := 0) (hi := D 0 0 - 1) hC a3 (by omega) (by omega)).2 q1
      refine pk_oC.F q1 ?_ (a2.tr b2) b3
      rw [pc_holeE hC h d2, if_pos q0, a1, pk_bs, (pc_inch hC a3 hD).1, pk_bs, (pc_inch hC a3 hD).2, b1, pk_bd2E, if_pos rfl]
    · rw [pr_line18 (by omega) hS h.1 hw]
      obtain ⟨V1, c1, c2, c3⟩ := (pr_h14 (N := N) (by omega) hS h hD hk q0).1 q1
      exact pk_oK.F q1 (by rw [c1, pk_bs, pr_384F hS c3]) c2 c3
  obtain ⟨m0, m1, m2⟩ := tq_no0 q1
  have e2 := tq_e_gt (T := T) hL ee.2 m0
  have e3 := tq_e_le (T := T) hL ee.2
  have hb := tq_w_b (T := T) (L := L) (p := tq_e T L (tq_e T L p))
  have cE : ∀ V V1 V2, pk_LC z u V T L p D P B → q_X9_step N Y V (z + 55) = some V1 → pk_LC z u V1 T L (tq_e T L p) D P B → q_X8_readNumber N Y V1 (z + 54) (nI 0) (nI (D 0 0 - 1)) = some (nI 1, V2) → bk_rI V2 (z + 54) 3 = nI (tq_v T L (tq_e T L p)) → pk_LC z u V2 T L (tq_e T L (tq_e T L p)) D P B → q_X8_readHole N Y V (z + 54) = if tq_dI (tq_w T L (tq_e T L (tq_e T L p))) = -nI 1 then bk_bd2 (q_X8_refuse N Y V2 (z + 54) (nI 1)) (fun r_20 V_21 => bk_ck (r_20 = nI 0 ∨ r_20 = nI 1) (some (r_20, V_21))) else (q_X1_isAt N Y V2 (u + 3) (nI (tq_v T L (tq_e T L p))) (tq_dI (tq_w T L (tq_e T L (tq_e T L p))))).bind fun r_30 => if r_30 = nI 0 then (q_X9_step N Y V2 (z + 55)).bind fun V_32 => bk_bd2 (q_X8_readNumber N Y V_32 (z + 54) (nI 1) (nI 24)) fun r_34 V_35 => if r_34 = nI 0 then some (nI 0, V_35) else (q_X9_isWord N Y V_35 (z + 55) 26).bind fun r_37 => if r_37 = nI 0 then q_X8_readHole_129 N Y V_35 (z + 54) (nI (tq_v T L (tq_e T L p))) (tq_dI (tq_w T L (tq_e T L (tq_e T L p)))) r_37 else (q_X9_step N Y V_35 (z + 55)).bind fun V_39 => q_X8_readHole_129 N Y V_39 (z + 54) (nI (tq_v T L (tq_e T L p))) (tq_dI (tq_w T L (tq_e T L (tq_e T L p)))) r_37 else bk_bd2 (q_X8_refuse N Y V2 (z + 54) (nI 4)) (fun r_20 V_21 => bk_ck (r_20 = nI 0 ∨ r_20 = nI 1) (some (r_20, V_21))) := by
    intro V V1 V2 h a1 a3 b1 b3 b4
    rw [pc_holeE hC h d2, if_pos q0, a1, pk_bs, (pc_inch hC a3 hD).1, pk_bs, (pc_inch hC a3 hD).2, b1, pk_bd2E, if_neg (show ¬ nI 1 = nI 0 by decide), pc_sideN hC b4.1, pk_bs, b3]
  by_cases qs : 9 ≤ tq_w T L (tq_e T L (tq_e T L p)) ∧ tq_w T L (tq_e T L (tq_e T L p)) ≤ 12
  rotate_left
  · refine ⟨tq_oF 1 (tq_s T L (tq_e T L (tq_e T L p))), pk_oB.F (by omega), fun V h => ?_, fun Y2 V hS h => ?_⟩
    · rw [pc_line18 hC h.1 hw]
      refine pc_sgn hC ?_
      obtain ⟨V1, a1, a2, a3⟩ := pc_go hC h
      obtain ⟨V2, b1, b2, b3, b4⟩ := (pc_nm (lo := 0) (hi := D 0 0 - 1) hC a3 (by omega) (by omega)).1 q1
      rw [cE V V1 V2 h a1 a3 b1 b3 b4, if_pos (tq_dI_n qs)]
      exact (pc_ref hC b4 (by omega)).fr (a2.tr b2)
    · rw [pr_line18 (by omega) hS h.1 hw]
      obtain ⟨V1, c1, c2, c3⟩ := (pr_h14 (N := N) (by omega) hS h hD hk q0).2 q1
      rw [c3]
      rcases tq_d9 _ (by omega) qs with g | ⟨g1, g2⟩
      · rw [if_pos g]
        obtain ⟨V2, k1, k2, k3⟩ := pr_h67 (N := N) (x1 := nI (tq_v T L (tq_e T L p))) (x2 := tq_wI (tq_w T L (tq_e T L (tq_e T L p))) - 9) (by omega) hS c2 q0
        exact pk_oK.F (by omega) (by rw [k1, pk_bs, pr_384F hS k3]) (c1.tr k2) k3
      · rw [if_neg g1, if_pos g2]
        obtain ⟨V2, k1, k2, k3⟩ := pr_h67 (N := N) (x1 := nI (tq_v T L (tq_e T L p))) (x2 := tq_wI (tq_w T L (tq_e T L (tq_e T L p))) - 9) (by omega) hS c2 q0
        exact pk_oK.F (by omega) (by rw [k1, pk_bs, pr_384F hS k3]) (c1.tr k2) k3
  obtain ⟨s, hs, hws⟩ : ∃ s, s < 4 ∧ tq_w T L (tq_e T L (tq_e T L p)) = 9 + s := ⟨tq_w T L (tq_e T L (tq_e T L p)) - 9, by omega, by omega⟩
  obtain ⟨y1, y2⟩ := tq_dI_y s hs
  obtain ⟨y3, y4, y5⟩ := tq_d9y s hs
  have vb := tq_v_lt (T := T) hL ee.2
  have wk := tq_w_k (T := T) (L := L) (p := tq_e T L (tq_e T L p)) (by omega)
  have e4 := tq_e_gt (T := T) hL e3 (by omega)
  have e5 := tq_e_le (T := T) hL e3
  have rE : ∀ Y2 V, pk_Rf Y2 r → pk_LR r V T L p D P B → ∃ V1, pk_frW r V V1 ∧ pk_LR r V1 T L (tq_e T L (tq_e T L p)) D P B ∧ q_X12_readsHole N Y2 V r = q_X12_readsHole_68 N Y2 V1 r (nI (tq_v T L (tq_e T L p))) (nI s) 1 := by
    intro Y2 V hS h
    obtain ⟨V1, c1, c2, c3⟩ := (pr_h14 (N := N) (by omega) hS h hD hk q0).2 q1
    rw [hws, y3, if_neg y4, if_neg y5] at c3
    exact ⟨V1, c1, c2, c3⟩
  rw [hws, y1] at cE
  have cE' := fun V V1 V2 h1 h2 h3 h4 h5 h6 => (cE V V1 V2 h1 h2 h3 h4 h5 h6).trans (if_neg (fun g => y2 (by rw [y1]; exact g)))
  by_cases qa : tq_at D (tq_v T L (tq_e T L p)) s
  · refine ⟨tq_oF 4 (tq_s T L (tq_e T L (tq_e T L p))), pk_oB.F (by omega), fun V h => ?_, fun Y2 V hS h => ?_⟩
    · rw [pc_line18 hC h.1 hw]
      refine pc_sgn hC ?_
      obtain ⟨V1, a1, a2, a3⟩ := pc_go hC h
      obtain ⟨V2, b1, b2, b3, b4⟩ := (pc_nm (lo := 0) (hi := D 0 0 - 1) hC a3 (by omega) (by omega)).1 q1
      rw [cE' V V1 V2 h a1 a3 b1 b3 b4, (pc_isAt hC b4.2.1 hD vb hs).1 qa, pk_bs, if_neg (show ¬ nI 1 = nI 0 by decide)]
      exact (pc_ref hC b4 (by omega)).fr (a2.tr b2)
    · rw [pr_line18 (by omega) hS h.1 hw]
      obtain ⟨V1, c1, c2, c3⟩ := rE Y2 V hS h
      obtain ⟨V2, k1, k2, k3⟩ := (pr_h68 (N := N) (by omega) hS c2 hD q0 vb hs (by omega)).1 qa
      exact pk_oK.F (by omega) (by rw [c3, k1, pk_bs, pr_384F hS k3]) (c1.tr k2) k3
  by_cases q2 : tq_no T L (tq_e T L (tq_e T L (tq_e T L p))) 1 24 = 0
  rotate_left
  · refine ⟨tq_oF (tq_no T L (tq_e T L (tq_e T L (tq_e T L p))) 1 24) (tq_s T L (tq_e T L (tq_e T L (tq_e T L p)))), pk_oB.F q2, fun V h => ?_, fun Y2 V hS h => ?_⟩
    · rw [pc_line18 hC h.1 hw]
      refine pc_sgn hC ?_
      obtain ⟨V1, a1, a2, a3⟩ := pc_go hC h
      obtain ⟨V2, b1, b2, b3, b4⟩ := (pc_nm (lo := 0) (hi := D 0 0 - 1) hC a3 (by omega) (by omega)).1 q1
      obtain ⟨V3, c1, c2, c3⟩ := pc_go hC b4
      obtain ⟨V4, f1, f2, f3⟩ := (pc_nm (lo := 1) (hi := 24) hC c3 (by omega) (by omega)).2 q2
      refine pk_oC.F q2 ?_ (((a2.tr b2).tr c2).tr f2) f3
      rw [cE' V V1 V2 h a1 a3 b1 b3 b4, (pc_isAt hC b4.2.1 hD vb hs).2 qa, pk_bs, if_pos rfl, c1, pk_bs, f1, pk_bd2E, if_pos rfl]
    · rw [pr_line18 (by omega) hS h.1 hw]
      obtain ⟨V1, c1, c2, c3⟩ := rE Y2 V hS h
      obtain ⟨V2, k1, k2, k3⟩ := ((pr_h68 (N := N) (by omega) hS c2 hD q0 vb hs (by omega)).2 qa).1 q2
      exact pk_oK.F q2 (by rw [c3, k1, pk_bs, pr_384F hS k3]) (c1.tr k2) k3
  obtain ⟨k0, k1, k2⟩ := tq_no0 q2
  have e6 := tq_e_gt (T := T) hL e5 k0
  have e7 := tq_e_le (T := T) hL e5
  by_cases q3 : tq_w T L (tq_e T L (tq_e T L (tq_e T L (tq_e T L p)))) = 19
  · have wk3 := tq_w_k (T := T) (L := L) (p := tq_e T L (tq_e T L (tq_e T L (tq_e T L p)))) (by omega)
    have e8 := tq_e_gt (T := T) hL e7 (by omega)
    refine ⟨(0, tq_e T L (tq_e T L (tq_e T L (tq_e T L (tq_e T L p)))), tq_Da D 2 3 6 (fun j => if j = 3 then tq_v T L (tq_e T L p) else if j = 4 then s else if j = 5 then tq_v T L (tq_e T L (tq_e T L (tq_e T L p))) else 1), P, B), fun _ => ⟨by show p < tq_e T L (tq_e T L (tq_e T L (tq_e T L (tq_e T L p)))); omega, tq_e_le hL e7, hD.w3 q0 ⟨by show tq_v T L (tq_e T L p) < D 0 0; omega, by show s ≤ 3; omega, k1, k2, Nat.le_refl 1⟩, hP0, hP1⟩, fun V h => ?_, fun Y2 V hS h => ?_⟩
    · rw [pc_line18 hC h.1 hw]
      refine pc_sgn hC ?_
      obtain ⟨V1, a1, a2, a3⟩ := pc_go hC h
      obtain ⟨V2, b1, b2, b3, b4⟩ := (pc_nm (lo := 0) (hi := D 0 0 - 1) hC a3 (by omega) (by omega)).1 q1
      obtain ⟨V3, c1, c2, c3⟩ := pc_go hC b4
      obtain ⟨V4, f1, f2, f3, f4⟩ := (pc_nm (lo := 1) (hi := 24) hC c3 (by omega) (by omega)).1 q2
      obtain ⟨V5, g1, g2, g3⟩ := pc_goes (N := N) hN1 hM f4.1
      have h5 := f4.fN g2.fN u2 g3
      have g4 : bk_rI V5 (z + 54) 3 = nI (tq_v T L (tq_e T L (tq_e T L (tq_e T L p)))) := (congrFun (g2.2 (z + 54) (by omega)) 3).trans f3
      obtain ⟨V6, l1, l2, l3⟩ := pc_hadd (a := tq_v T L (tq_e T L p)) (b := s) (c := tq_v T L (tq_e T L (tq_e T L (tq_e T L p)))) (d := 1) hC h5 q0 (by omega)
      refine Or.inl ⟨rfl, V6, ?_, ((((a2.tr b2).tr c2).tr f2).tr g2.fN.fW).tr l2, l3⟩
      rw [cE' V V1 V2 h a1 a3 b1 b3 b4, (pc_isAt hC b4.2.1 hD vb hs).2 qa, pk_bs, if_pos rfl, c1, pk_bs, f1, pk_bd2E, if_neg (show ¬ nI 1 = nI 0 by decide), pc_wrd hC f4.1 (by omega), pk_bs, pk_Bt (show tq_w T L (tq_e T L (tq_e T L (tq_e T L (tq_e T L p)))) = tq_G.getD 26 99 from q3), if_neg (show ¬ nI 1 = nI 0 by decide), g1, pk_bs, pc_129 hC g4, l1, pk_bs]
    · rw [pr_line18 (by omega) hS h.1 hw]
      obtain ⟨V1, c1, c2, c3⟩ := rE Y2 V hS h
      obtain ⟨V2, l1, l2, l3⟩ := ((pr_h68 (N := N) (by omega) hS c2 hD q0 vb hs (by omega)).2 qa).2 q2
      simp only [q3, if_true] at l3
      exact Or.inl ⟨rfl, V2, by rw [c3, l1, pk_bs], c1.tr l2, l3⟩
  · refine ⟨(0, tq_e T L (tq_e T L (tq_e T L (tq_e T L p))), tq_Da D 2 3 6 (fun j => if j = 3 then tq_v T L (tq_e T L p) else if j = 4 then s else if j = 5 then tq_v T L (tq_e T L (tq_e T L (tq_e T L p))) else 0), P, B), fun _ => ⟨by show p < tq_e T L (tq_e T L (tq_e T L (tq_e T L p))); omega, e7, hD.w3 q0 ⟨by show tq_v T L (tq_e T L p) < D 0 0; omega, by show s ≤ 3; omega, k1, k2, Nat.zero_le 1⟩, hP0, hP1⟩, fun V h => ?_, fun Y2 V hS h => ?_⟩
    · rw [pc_line18 hC h.1 hw]
      refine pc_sgn hC ?_
      obtain ⟨V1, a1, a2, a3⟩ := pc_go hC h
      obtain ⟨V2, b1, b2, b3, b4⟩ := (pc_nm (lo := 0) (hi := D 0 0 - 1) hC a3 (by omega) (by omega)).1 q1
      obtain ⟨V3, c1, c2, c3⟩ := pc_go hC b4
      obtain ⟨V4, f1, f2, f3, f4⟩ := (pc_nm (lo := 1) (hi := 24) hC c3 (by omega) (by omega)).1 q2
      obtain ⟨V6, l1, l2, l3⟩ := pc_hadd (a := tq_v T L (tq_e T L p)) (b := s) (c := tq_v T L (tq_e T L (tq_e T L (tq_e T L p)))) (d := 0) hC f4 q0 (by omega)
      refine Or.inl ⟨rfl, V6, ?_, (((a2.tr b2).tr c2).tr f2).tr l2, l3⟩
      rw [cE' V V1 V2 h a1 a3 b1 b3 b4, (pc_isAt hC b4.2.1 hD vb hs).2 qa, pk_bs, if_pos rfl, c1, pk_bs, f1, pk_bd2E, if_neg (show ¬ nI 1 = nI 0 by decide), pc_wrd hC f4.1 (by omega), pk_bs, pk_Bf (show ¬ tq_w T L (tq_e T L (tq_e T L (tq_e T L (tq_e T L p)))) = tq_G.getD 26 99 from q3), if_pos rfl, pc_129 hC f3, l1, pk_bs]
    · rw [pr_line18 (by omega) hS h.1 hw]
      obtain ⟨V1, c1, c2, c3⟩ := rE Y2 V hS h
      obtain ⟨V2, l1, l2, l3⟩ := ((pr_h68 (N := N) (by omega) hS c2 hD q0 vb hs (by omega)).2 qa).2 q2
      simp only [q3, if_false] at l3
      exact Or.inl ⟨rfl, V2, by rw [c3, l1, pk_bs], c1.tr l2, l3⟩
end
