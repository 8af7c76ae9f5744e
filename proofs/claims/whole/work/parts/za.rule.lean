/-! the lines: rules -/
section
variable {N z t u s r a b d k n j h m l p q q0 md wa s' i f gg v S L g lo hi w : Nat} {Y Y2 Y' : bk_Lay} {V V' V1 V2 : bk_Val} {x y x1 x2 x3 x4 x5 ee : Int32} {T T' R G In : Nat → Nat} {D D' : Nat → Nat → Nat} {P P' : Nat → List Nat} {B B' : Nat → Bool} {K c : List Nat} {o : pk_O} {X : Option (Int32 × bk_Val)} {XR : Option bk_Val}
theorem tq_rc_len : ∀ c : List Nat, (tq_rc h c).length ≤ 2 * c.length
  | [] => Nat.le_refl _
  | x :: c => by
    have ih := tq_rc_len c
    rw [show tq_rc h (x :: c) = (if x < 10000 then [1, x] else if x < 20000 then [2, sp_vm h (x - 10000)] else [sp_tag (x - 20000)]) ++ tq_rc h c from rfl, List.length_append, List.length_cons]
    have : (if x < 10000 then [1, x] else if x < 20000 then [2, sp_vm h (x - 10000)] else [sp_tag (x - 20000)]).length ≤ 2 := by
      split
      · exact Nat.le_refl _
      · split
        · exact Nat.le_refl _
        · exact Nat.le_succ _
    omega
theorem tq_P_h : tq_P P h c h = c := if_pos rfl
theorem tq_P_n (hn : w ≠ h) : tq_P P h c w = P w := if_neg hn
theorem pc_ruleX (H : pk_cL N z u Y) (hp : pk_PC z V T L p) (hh : h < 2) (hw : tq_w T L p = 30 + h) : q_X8_readLine N Y V (z + 54) = bk_bd2 (q_X8_readOnce N Y V (z + 54) (nI (8 + h))) (fun r_77 V_78 => if r_77 = nI 0 then some (nI 0, V_78) else bk_bd2 (q_X8_readExprR N Y 8 V_78 (z + 54) (u + 15 + 3 * h) (nI 0)) (fun r_98 V_99 => if r_98 = nI 0 then some (nI 0, V_99) else bk_bd2 (q_X8_readSign N Y V_99 (z + 54) (nI 59)) (fun r_26 V_27 => if r_26 = nI 0 then some (nI 0, V_27) else some (nI 1, V_27)))) := by
  rcases (show h = 0 ∨ h = 1 by omega) with q | q <;> subst q
  · exact pc_line30 H hp hw
  · exact pc_line31 H hp hw
theorem pr_ruleX (hN : 1000 ≤ N) (hS : pk_Rf Y r) (h1 : pk_PR r V T L p) (hh : h < 2) (hw : tq_w T L p = 30 + h) : q_X12_line0 N Y V r = bk_bd2 (q_X12_begins N Y V r (nI (tq_wd (8 + h)))) (fun r_43 V_44 => if r_43 = nI 0 then some V_44 else (q_X12_expression N Y (bk_wI (bk_wI V_44 r 50 (nI h)) r (43 + h) (bk_rI V_44 r 46)) r).bind (fun V_30 => q_X12_line0_384 N Y V_30 r)) := by
  have e3 : ∀ V : bk_Val, ∀ k, bk_rI (bk_wI V r 50 (nI k)) r 46 = bk_rI V r 46 := fun V k => by rw [pk_rI_same, if_neg (by omega)]
  have e4 : ∀ V : bk_Val, ∀ k, bk_rI (bk_wI V r 50 (nI k)) r 50 = nI k := fun V k => by rw [pk_rI_same, if_pos rfl]
  rcases (show h = 0 ∨ h = 1 by omega) with q | q <;> subst q
  · rw [pr_line30 hN hS h1 hw]
    unfold q_X12_line0_322 q_X12_line0_343 q_X12_line0_372
    simp only [hS, pk_ckT, pk_bs, pk_letE, pk_bd2E, pk_bd3E, if_true, if_false, eq_self, not_true_eq_false, not_false_eq_true, true_and, and_true, Nat.not_lt_zero, Nat.zero_le, Nat.reduceEqDiff, Nat.reduceLT, Nat.reduceLeDiff, pk_ck, pk_lit, e3, e4, true_or, show ¬ nI 30 = nI 31 from by decide]
    rfl
  · rw [pr_line31 hN hS h1 hw]
    unfold q_X12_line0_322 q_X12_line0_343 q_X12_line0_372
    simp only [hS, pk_ckT, pk_bs, pk_letE, pk_bd2E, pk_bd3E, if_true, if_false, eq_self, not_true_eq_false, not_false_eq_true, true_and, and_true, Nat.not_lt_zero, Nat.zero_le, Nat.reduceEqDiff, Nat.reduceLT, Nat.reduceLeDiff, pk_ck, pk_lit, e3, e4, or_true, show ¬ nI 1 = nI 0 from by decide]
    rfl
theorem pk_LC.rule (hC : pk_cL N z u Y) (h1 : pk_LC z u V T L p D P B) (hh : h < 2) (f : pk_fX z (u + 15 + 3 * h) V V') (hs : pk_sC z (u + 15 + 3 * h) V' T L q c) : pk_LC z u V' T L q D (tq_P P h c) B := by
  obtain ⟨hN, hM, hS, hi, u1, u2⟩ := hC
  obtain ⟨a1, a2, a3, a4, a5, a6, a7⟩ := pk_CT_iff.mp h1.2.1
  obtain ⟨s, c1, c2⟩ := h1.2.2
  refine ⟨hs.1, pk_CT_iff.mpr ⟨a1.cg (f.2.1 _ (by omega) (by omega) (by omega) (by omega)) (fun _ => rfl), a2.cg (f.2.1 _ (by omega) (by omega) (by omega) (by omega)) (fun _ => rfl), a3.cg (fun a q1 q2 => f.2.1 _ (by omega) (by omega) (by omega) (by omega)) (fun _ _ _ _ => rfl), a4.cg (fun a q1 q2 => f.2.1 _ (by omega) (by omega) (by omega) (by omega)) (fun _ _ _ _ => rfl), a5.cg (fun a q1 q2 => f.2.1 _ (by omega) (by omega) (by omega) (by omega)) (fun _ _ _ _ => rfl), ?_⟩, s, (f.2.2.1 2 (by omega)).trans c1, c2⟩
  rcases (show h = 0 ∨ h = 1 by omega) with q | q <;> subst q
  · exact ⟨by rw [tq_P_h]; exact hs.2.1, by rw [tq_P_n (by omega)]; exact a7.of (f.2.1 _ (by omega) (by omega) (by omega) (by omega)) (f.2.1 _ (by omega) (by omega) (by omega) (by omega))⟩
  · exact ⟨by rw [tq_P_n (by omega)]; exact a6.of (f.2.1 _ (by omega) (by omega) (by omega) (by omega)) (f.2.1 _ (by omega) (by omega) (by omega) (by omega)), by rw [tq_P_h]; exact hs.2.1⟩
theorem pk_LC.sC (h1 : pk_LC z u V T L p D P B) (hh : h < 2) (hP : P h = []) : pk_sC z (u + 15 + 3 * h) V T L p [] := by
  obtain ⟨-, -, -, -, -, a6, a7⟩ := pk_CT_iff.mp h1.2.1
  refine ⟨h1.1, ?_, by rw [List.length_nil]; omega⟩
  rcases (show h = 0 ∨ h = 1 by omega) with q | q <;> subst q
  · rw [← hP]; exact a6
  · rw [← hP]; exact a7
/-- the reference's text after a rule -/
theorem pk_LR.rule (h1 : pk_LR r V1 T L p D P B) (hK : pk_KK V1 r P K) (hh : h < 2) (hP : P h = []) (hc : c ≠ []) (f : pk_frX r (bk_wI (bk_wI V1 r 50 (nI h)) r (43 + h) (nI K.length)) V') (h2 : pk_PR r V' T L q) (e1 : bk_rI V' r 46 = nI (K ++ tq_rc h c ++ [0]).length) (e2 : ∀ i, i < (K ++ tq_rc h c ++ [0]).length → bk_rI V' (r + 12) i = nI ((K ++ tq_rc h c ++ [0]).getD i 0)) (e3 : (K ++ tq_rc h c ++ [0]).length ≤ 2 * q) : pk_LR r V' T L q D (tq_P P h c) B := by
  obtain ⟨-, a2, -, a5⟩ := h1
  have g : ∀ k, (30 < k ∧ k < 46) → k ≠ 43 + h → bk_rI V' r k = bk_rI V1 r k := fun k q1 q2 => by
    rw [show bk_rI V' r k = bk_rI (bk_wI (bk_wI V1 r 50 (nI h)) r (43 + h) (nI K.length)) r k from f.2.1 k (by omega), pk_rI_same, if_neg q2, pk_rI_same, if_neg (by omega)]
  have g2 : ∀ a, a ≠ r → a ≠ r + 12 → a ≠ r + 13 → a ≠ r + 14 → V'.1 a = V1.1 a := fun a q1 q2 q3 q4 => by
    rw [f.1 a q1 q2 q3 q4, pk_rowI q1, pk_rowI q1]
  have eh : bk_rI V' r (43 + h) = nI K.length := by
    rw [show bk_rI V' r (43 + h) = bk_rI (bk_wI (bk_wI V1 r 50 (nI h)) r (43 + h) (nI K.length)) r (43 + h) from f.2.1 _ (by omega), pk_rI_same, if_pos rfl]
  have kh : pk_KR V' r (tq_P P h c) (K ++ tq_rc h c ++ [0]) h := Or.inr ⟨by rw [tq_P_h]; exact hc, K, [], by rw [tq_P_h, List.append_nil, List.append_assoc], eh⟩
  have kn : ∀ w, w ≠ h → w < 2 → pk_KR V1 r P K w → pk_KR V' r (tq_P P h c) (K ++ tq_rc h c ++ [0]) w := by
    intro w hw hw2 hk
    have e : bk_rI V' r (43 + w) = bk_rI V1 r (43 + w) := g _ (by omega) (by omega)
    rcases hk with ⟨b1, b2⟩ | ⟨b1, K0, K1, b2, b3⟩
    · exact Or.inl ⟨by rw [tq_P_n hw]; exact b1, e.trans b2⟩
    · refine Or.inr ⟨by rw [tq_P_n hw]; exact b1, K0, K1 ++ tq_rc h c ++ [0], ?_, e.trans b3⟩
      rw [tq_P_n hw]
      simp only [List.append_assoc] at b2 ⊢
      rw [← List.append_assoc K, ← List.append_assoc, b2]
      simp only [List.append_assoc]
  refine ⟨h2, a2.of (fun k q1 q2 => g k (by omega) (by omega)) (fun a q1 q2 => g2 a (by omega) (by omega) (by omega) (by omega)), ⟨K ++ tq_rc h c ++ [0], ⟨e1, e2, ?_, ?_⟩, e3⟩, a5.of (g 45 (by omega) (by omega)) ?_⟩
  · by_cases q : (0 : Nat) = h
    · subst q; exact kh
    · exact kn 0 q (by omega) hK.2.2.1
  · by_cases q : (1 : Nat) = h
    · subst q; exact kh
    · exact kn 1 q (by omega) hK.2.2.2
  · exact f.2.2.2 49 (by omega)
theorem ln_rule (H : pk_lH N z u Y T L p D P B) (hh : h < 2) (hw : tq_w T L p = 30 + h) : pk_ln N z u r Y T L p D P B := by
  have ee := H.ends
  obtain ⟨hN, hC, hL, hp, hD, hP0, hP1, hk⟩ := H
  have ⟨hN1, hM, hSd, hi, u1, u2⟩ := hC
  have hob : tq_ob (8 + h) := by
    rcases (show h = 0 ∨ h = 1 by omega) with q | q <;> subst q
    · exact Or.inr (Or.inl rfl)
    · exact Or.inr (Or.inr rfl)
  by_cases qB : B (8 + h) = true
  · refine ⟨tq_oF 5 (tq_s T L p), pk_oB.F (by omega), fun V h1 => ?_, fun Y2 V hS h1 => ?_⟩
    · rw [pc_ruleX hC h1.1 hh hw, tq_tlF (by omega)]
      obtain ⟨V1, c1, c2, c3⟩ := (pc_once (N := N) (b := 8 + h) hC h1 (by omega)).1 qB
      exact pk_oC.F (by omega) (by rw [c1, pk_bd2E, if_pos rfl]) c2 c3
    · rw [pr_ruleX (by omega) hS h1.1 hh hw]
      obtain ⟨V1, c1, c2, c3⟩ := (pr_begins (N := N) (b := 8 + h) (by omega) hS h1 hob hk).1 qB
      exact pk_oK.F (by omega) (by rw [c1, pk_bd2E, if_pos rfl]) c2 c3
  have qB' : B (8 + h) = false := by
    cases g : B (8 + h) with
    | true => exact absurd g qB
    | false => rfl
  have hPh : P h = [] := by
    rcases (show h = 0 ∨ h = 1 by omega) with q | q <;> subst q
    · exact hP0 qB'
    · exact hP1 qB'
  have hcH : pk_cH N z u (u + 15 + 3 * h) h Y := ⟨hN1, hM, hSd, hi, u1, u2, rfl, hh⟩
  obtain ⟨⟨ok, p', c⟩, r1, r2⟩ := pc_rExpr (T := T) hcH hL 6 0 8 (by omega) (by omega) (tq_e T L p) ee.2
  rcases ok with _ | k
  · obtain ⟨o1, o2, o3, o4, o5⟩ := tq_R_rule hL hh ee.2 r1
    refine ⟨(0, p', D, tq_P P h c, tq_B B (8 + h)), fun _ => ⟨by show p < p'; omega, o5, ?_, ?_, ?_⟩, fun V h1 => ?_, fun Y2 V hS h1 => ?_⟩
    · obtain ⟨d1, d2, d3, d4, d5, d6⟩ := pk_DB_iff.mp hD
      refine pk_DB_iff.mpr ⟨d1, d2, d3, d4, d5, fun w hw => ?_⟩
      by_cases q : w = h
      · rw [q]
        show (tq_P P h c h).length ≤ 700 ∧ (tq_P P h c h ≠ [] → sp_ok (5 + h) (tq_P P h c h) 0)
        rw [tq_P_h]
        exact ⟨o3, fun _ => o1⟩
      · show (tq_P P h c w).length ≤ 700 ∧ (tq_P P h c w ≠ [] → sp_ok (5 + w) (tq_P P h c w) 0)
        rw [tq_P_n q]
        exact d6 w hw
    · intro g
      show tq_P P h c 0 = []
      by_cases q : (0 : Nat) = h
      · subst q
        exact absurd (show tq_B B 8 8 = false from g) (by unfold tq_B; rw [if_pos rfl]; exact fun g => Bool.noConfusion g)
      · rw [tq_P_n q]
        exact tq_B_8 (b := 8 + h) (by omega) hP0 g
    · intro g
      show tq_P P h c 1 = []
      by_cases q : (1 : Nat) = h
      · subst q
        exact absurd (show tq_B B 9 9 = false from g) (by unfold tq_B; rw [if_pos rfl]; exact fun g => Bool.noConfusion g)
      · rw [tq_P_n q]
        exact tq_B_9 (b := 8 + h) (by omega) hP1 g
    · rw [pc_ruleX hC h1.1 hh hw]
      obtain ⟨V1, c1, c2, c3⟩ := (pc_once (N := N) (b := 8 + h) hC h1 (by omega)).2 qB'
      rw [c1, pk_bd2E, if_neg (show ¬ nI 1 = nI 0 by decide)]
      refine (pc_sgn hC ?_).fr c2
      rcases r2 V1 [] (c3.sC hh hPh) with ⟨-, V2, t1, t2, t3⟩ | ⟨t0, -⟩
      · exact Or.inl ⟨rfl, V2, t1, t2.fW (by omega), c3.rule hC hh t2 t3⟩
      · exact absurd rfl t0
    · rw [pr_ruleX (by omega) hS h1.1 hh hw]
      obtain ⟨V1, c1, c2, c3, K, c4, c5⟩ := (pr_begins (N := N) (b := 8 + h) (by omega) hS h1 hob hk).2 qB'
      rw [c1, pk_bd2E, if_neg (show ¬ nI 1 = nI 0 by decide), c4.1]
      have f0 : pk_frW r V1 (bk_wI (bk_wI V1 r 50 (nI h)) r (43 + h) (nI K.length)) := (pk_frW.ws (by omega)).tr (pk_frW.ws (by omega))
      have x1 : pk_PR r (bk_wI (bk_wI V1 r 50 (nI h)) r (43 + h) (nI K.length)) T L (tq_e T L p) := c3.1.off (fun j hj => by rw [pk_rI_same, if_neg (by omega), pk_rI_same, if_neg (by omega)]) (by rw [pk_rowI (by omega), pk_rowI (by omega)]) rfl
      have len := tq_rc_len (h := h) c
      have lp := tq_R_p hL r1 ee.2 rfl
      simp only [List.length_nil] at lp
      rcases pr_expr (N := N) (K := K) hN hS hh r1 x1 (by rw [pk_rI_same, if_neg (by omega), pk_rI_same, if_neg (by omega)]; exact c4.1) (fun i hi => by rw [pk_rI_ne (by omega), pk_rI_ne (by omega)]; exact c4.2.1 i hi) (by omega) (by rw [pk_rI_same, if_neg (by omega), pk_rI_same, if_pos rfl]) with ⟨-, V2, t1, t2, t3, t4, t5, t6⟩ | ⟨t0, -⟩
      · refine Or.inl ⟨rfl, V2, by rw [t1, pk_bs], (c2.tr f0).tr t2.toW, c3.rule c4 hh hPh o2 t2 t3 t4 t5 ?_⟩
        simp only [List.length_append, List.length_cons, List.length_nil]
        omega
      · exact absurd rfl t0
  · refine ⟨tq_oF (k + 1) p', pk_oB.F (by omega), fun V h1 => ?_, fun Y2 V hS h1 => ?_⟩
    · rw [pc_ruleX hC h1.1 hh hw]
      obtain ⟨V1, c1, c2, c3⟩ := (pc_once (N := N) (b := 8 + h) hC h1 (by omega)).2 qB'
      rw [c1, pk_bd2E, if_neg (show ¬ nI 1 = nI 0 by decide)]
      refine (pc_sgn hC ?_).fr c2
      rcases r2 V1 [] (c3.sC hh hPh) with ⟨t0, -⟩ | ⟨t0, V2, t1, t2, t3⟩
      · exact absurd t0 (by simp)
      · exact pk_oC.F (by omega) t1 (t2.fW (by omega)) t3
    · rw [pr_ruleX (by omega) hS h1.1 hh hw]
      obtain ⟨V1, c1, c2, c3, K, c4, c5⟩ := (pr_begins (N := N) (b := 8 + h) (by omega) hS h1 hob hk).2 qB'
      rw [c1, pk_bd2E, if_neg (show ¬ nI 1 = nI 0 by decide), c4.1]
      have f0 : pk_frW r V1 (bk_wI (bk_wI V1 r 50 (nI h)) r (43 + h) (nI K.length)) := (pk_frW.ws (by omega)).tr (pk_frW.ws (by omega))
      have x1 : pk_PR r (bk_wI (bk_wI V1 r 50 (nI h)) r (43 + h) (nI K.length)) T L (tq_e T L p) := c3.1.off (fun j hj => by rw [pk_rI_same, if_neg (by omega), pk_rI_same, if_neg (by omega)]) (by rw [pk_rowI (by omega), pk_rowI (by omega)]) rfl
      rcases pr_expr (N := N) (K := K) hN hS hh r1 x1 (by rw [pk_rI_same, if_neg (by omega), pk_rI_same, if_neg (by omega)]; exact c4.1) (fun i hi => by rw [pk_rI_ne (by omega), pk_rI_ne (by omega)]; exact c4.2.1 i hi) (by omega) (by rw [pk_rI_same, if_neg (by omega), pk_rI_same, if_pos rfl]) with ⟨t0, -⟩ | ⟨-, V2, t1, t2, t3⟩
      · exact absurd t0 (by simp)
      · exact pk_oK.F (by omega) (by rw [t1, pk_bs, pr_384F hS t3]) ((c2.tr f0).tr t2.toW) t3
end
