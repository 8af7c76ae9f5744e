/-! the reference's machine: an operator, a closing bracket, the end -/
section
variable {N z t u s tl r a b d k n j h m l p q q0 md wa s' i f e gg v S L g lo hi w o d2 fu : Nat} {Y Y' : bk_Lay} {V V' V2 : bk_Val} {x y x1 x2 x3 x4 x5 ee : Int32} {w1 w2 : Int64} {T T' R G In td td2 : Nat → Nat} {K W K2 W2 k1 pe c c2 : List Nat} {k4 : bk_Val → Nat → Int32 → Int32 → Option bk_Val} {k29 : bk_Val → Nat → Int32 → Option bk_Val}
theorem tq_o1 : tq_o T L 1 p = if tq_w T L p = 33 then 1 else 0 := rfl
theorem tq_o2 : tq_o T L 2 p = if tq_w T L p = 32 then 2 else 0 := rfl
theorem tq_o4 : tq_o T L 4 p = if tq_sn T L p 60 then 4 else if tq_sn T L p 61 then 5 else 0 := rfl
theorem tq_o5 : tq_o T L 5 p = if tq_sn T L p 43 then 6 else if tq_sn T L p 45 then 7 else 0 := rfl
theorem tq_o6 : tq_o T L 6 p = if tq_sn T L p 42 then 8 else if tq_sn T L p 47 then 9 else 0 := rfl
theorem tq_sn_w (h : tq_sn T L p g) (hk : k < 35) : tq_w T L p ≠ k := fun e => by
  have := ((tq_w_iff hk).mp e).1
  have := h.1
  omega
theorem tq_sn_u (h : tq_sn T L p g) (h2 : tq_sn T L p k) : g = k := h.2.symm.trans h2.2
/-- an act begins to wait -/
theorem pr_begin (hN : 1000 ≤ N) (hS : pk_Rf Y r) (hs : pk_SR r V T L p gg K (pe ++ W) d td) (hl : l < 10) (hpe : ∀ o ∈ pe, tq_dr l o = true) (hW : tq_lo l W) (hv : v < 14) : ∃ V1 V2, q_X12_drops N Y V r (nI l) = some V1 ∧ q_X12_waitsFor N Y V1 r (nI v) = some V2 ∧ pk_frM r V V1 ∧ pk_frM r V V2 ∧ pk_PR r V1 T L p ∧ pk_SX r V2 gg (K ++ pe) (v :: W) d td := by
  have hp := hs.1.2.2.1
  have hL := hs.1.1.2.2.1
  obtain ⟨V1, e1, e2, e3⟩ := pr_drops (N := N) (lo := l) hN hS hl hs hpe hW
  have := e3.2.2.2
  obtain ⟨V2, b1, b2, b3⟩ := pr_waits (N := N) (v := v) hS e3.2.1 (by omega) (by omega)
  exact ⟨V1, V2, e1, b1, e2, e2.tr b2, e3.1, b3⟩
theorem pr_begL (hs : pk_SR r V T L p gg K (pe ++ W) d td) : (K ++ pe).length + (v :: W).length ≤ K.length + (pe ++ W).length + 2 ∧ (v :: W).length ≤ (pe ++ W).length + 1 := by
  rw [List.length_append, List.length_append, List.length_cons]
  omega
theorem pr_84 (hN : 1000 ≤ N) (hS : pk_Rf Y r) (hs : pk_SR r V T L p gg K (pe ++ W) d td) (hb : q_X12_waitsFor N Y V' r (nI v) = some V2) (hf : pk_frM r V V2) (hx : pk_SX r V2 gg (K ++ pe) (v :: W) d td) (ht : tq_k T L p ≠ 0) : ∃ V4, q_X12_expression_84 N Y (q_X12_expression_29 N Y fu) V' r (nI 1) r (nI v) = (q_X12_operand_4 N Y N V4 r (nI 1) (nI 1)).bind (pk_Ex N Y r fu) ∧ pk_frX r V V4 ∧ pk_SR r V4 T L (tq_e T L p) gg (K ++ pe) (v :: W) d (tq_tu td d 0) := by
  obtain ⟨f1, x1⟩ := hx.tst (v := 0)
  have e48 : bk_rI V2 r 48 = nI d := hx.2.2.2.2.2.1
  have d6 : d ≤ 6 := hx.2.2.2.2.2.2.1
  obtain ⟨V4, g1, g2, g3⟩ := pr_goS (N := N) hN hS hs (K2 := K ++ pe) (W2 := v :: W) (pr_begL hs).1 (pr_begL hs).2 (hf.tr f1) x1 ht
  refine ⟨V4, ?_, g2, g3⟩
  unfold q_X12_expression_84
  rw [pk_ck hS.1, hb, pk_bs, e48]
  simp (disch := omega) only [hS, pk_ckT, pk_bs, pk_letE, pk_bd2E, pk_bd3E, if_true, if_false, eq_self, not_true_eq_false, not_false_eq_true, true_and, and_true, Nat.not_lt_zero, Nat.zero_le, Nat.reduceEqDiff, Nat.reduceLT, Nat.reduceLeDiff, pk_ck, pk_lit, nI_clamp, pk_inE, g1]
  rfl
theorem pr_ex12 (hN : 1000 ≤ N) (hS : pk_Rf Y r) (hs : pk_SR r V T L p gg K (pe ++ W) d td) (hl : l = 1 ∨ l = 2) (ho : tq_o T L l p ≠ 0) (hpe : ∀ o ∈ pe, tq_dr l o = true) (hW : tq_lo l W) : ∃ V', pk_Ex N Y r (fu + 1) V = (q_X12_operand_4 N Y N V' r (nI 1) (nI 1)).bind (pk_Ex N Y r fu) ∧ pk_frX r V V' ∧ pk_SR r V' T L (tq_e T L p) gg (K ++ pe) (sp_tag (tq_o T L l p) :: W) d (tq_tu td d 0) := by
  have ht := (tq_o_k ho).1
  rcases hl with q | q
  · subst q
    rw [tq_o1] at ho ⊢
    have hw : tq_w T L p = 33 := by
      by_cases g : tq_w T L p = 33
      · exact g
      · rw [if_neg g] at ho; exact absurd rfl ho
    rw [if_pos hw]
    obtain ⟨V1, V2, b1, b2, b3, b4, b5, b6⟩ := pr_begin (N := N) (v := 5) hN hS hs (by omega) hpe hW (by omega)
    obtain ⟨V4, g1, g2, g3⟩ := pr_84 (N := N) (fu := fu) hN hS hs b2 b4 b6 ht
    refine ⟨V4, ?_, g2, g3⟩
    rw [pr_exG hN hS hs.1, if_neg (by omega), if_pos hw]
    unfold q_X12_expression_57
    rw [if_neg (show ¬ nI 33 = (32 : Int32) by decide)]
    unfold q_X12_expression_69
    rw [pk_ck hS.1, show q_X12_drops N Y V r 1 = some V1 from b1, pk_bs, if_neg (show ¬ nI 33 = (32 : Int32) by decide)]
    exact g1
  · subst q
    rw [tq_o2] at ho ⊢
    have hw : tq_w T L p = 32 := by
      by_cases g : tq_w T L p = 32
      · exact g
      · rw [if_neg g] at ho; exact absurd rfl ho
    rw [if_pos hw]
    obtain ⟨V1, V2, b1, b2, b3, b4, b5, b6⟩ := pr_begin (N := N) (v := 4) hN hS hs (by omega) hpe hW (by omega)
    obtain ⟨V4, g1, g2, g3⟩ := pr_84 (N := N) (fu := fu) hN hS hs b2 b4 b6 ht
    refine ⟨V4, ?_, g2, g3⟩
    rw [pr_exG hN hS hs.1, if_pos hw]
    unfold q_X12_expression_57
    rw [if_pos (show nI 32 = (32 : Int32) from rfl)]
    unfold q_X12_expression_69
    rw [pk_ck hS.1, show q_X12_drops N Y V r 2 = some V1 from b1, pk_bs, if_pos (show nI 32 = (32 : Int32) from rfl)]
    exact g1
theorem pr_226 (hN : 1000 ≤ N) (hS : pk_Rf Y r) (hs : pk_SR r V T L p gg K (pe ++ W) d td) (hb : q_X12_waitsFor N Y V' r (nI v) = some V2) (hf : pk_frM r V V2) (hx : pk_SX r V2 gg (K ++ pe) (v :: W) d td) (ht : tq_k T L p ≠ 0) : ∃ V4, (q_X12_expression_226 N Y (q_X12_expression_29 N Y fu) V' r (nI 1) r (nI v) = (q_X12_operand_4 N Y N V4 r (nI 0) (nI 1)).bind (pk_Ex N Y r fu) ∧ q_X12_expression_282 N Y (q_X12_expression_29 N Y fu) V' r (nI 1) r (nI v) = (q_X12_operand_4 N Y N V4 r (nI 0) (nI 1)).bind (pk_Ex N Y r fu)) ∧ pk_frX r V V4 ∧ pk_SR r V4 T L (tq_e T L p) gg (K ++ pe) (v :: W) d td := by
  obtain ⟨V4, g1, g2, g3⟩ := pr_goS (N := N) hN hS hs (K2 := K ++ pe) (W2 := v :: W) (pr_begL hs).1 (pr_begL hs).2 hf hx ht
  refine ⟨V4, ⟨?_, ?_⟩, g2, g3⟩
  · unfold q_X12_expression_226
    rw [pk_ck hS.1, hb, pk_bs, pk_ck hS.1, g1, pk_bs]
    rfl
  · unfold q_X12_expression_282
    rw [pk_ck hS.1, hb, pk_bs, pk_ck hS.1, g1, pk_bs]
    rfl
theorem pr_ex56 (hN : 1000 ≤ N) (hS : pk_Rf Y r) (hs : pk_SR r V T L p gg K (pe ++ W) d td) (hl : l = 5 ∨ l = 6) (ho : tq_o T L l p ≠ 0) (hpe : ∀ o ∈ pe, tq_dr l o = true) (hW : tq_lo l W) : ∃ V', pk_Ex N Y r (fu + 1) V = (q_X12_operand_4 N Y N V' r (nI 0) (nI 1)).bind (pk_Ex N Y r fu) ∧ pk_frX r V V' ∧ pk_SR r V' T L (tq_e T L p) gg (K ++ pe) (sp_tag (tq_o T L l p) :: W) d td := by
  have ht := (tq_o_k ho).1
  have z0 : nI 0 = (0 : Int32) := rfl
  rcases hl with q | q
  · subst q
    rw [tq_o5] at ho ⊢
    have hw : tq_sn T L p 43 ∨ tq_sn T L p 45 := by
      by_cases g : tq_sn T L p 43
      · exact Or.inl g
      · by_cases g2 : tq_sn T L p 45
        · exact Or.inr g2
        · rw [if_neg g, if_neg g2] at ho; exact absurd rfl ho
    have n6 : ¬ (tq_sn T L p 60 ∨ tq_sn T L p 61) := by
      rcases hw with g | g <;> rintro (g2 | g2) <;> exact absurd (tq_sn_u g g2) (by omega)
    have n32 : tq_w T L p ≠ 32 := by rcases hw with g | g <;> exact tq_sn_w g (by omega)
    have n33 : tq_w T L p ≠ 33 := by rcases hw with g | g <;> exact tq_sn_w g (by omega)
    by_cases q : tq_sn T L p 43
    · rw [if_pos q]
      obtain ⟨V1, V2, b1, b2, b3, b4, b5, b6⟩ := pr_begin (N := N) (v := 8) hN hS hs (by omega) hpe hW (by omega)
      obtain ⟨V4, g1, g2, g3⟩ := pr_226 (N := N) (fu := fu) hN hS hs b2 b4 b6 ht
      refine ⟨V4, ?_, g2, g3⟩
      rw [pr_exG hN hS hs.1, if_neg n32, if_neg n33, if_neg n6, pr_186 hN hS hs.1, if_pos hw]
      unfold q_X12_expression_204
      rw [pk_ck hS.1, show q_X12_drops N Y V r 5 = some V1 from b1, pk_bs, show q_X12_isSign N Y V1 r 43 = _ from pr_sn (g := 43) hS b5 (by omega), pk_bs, pk_Bt q, if_neg pk_n10]
      exact g1.1
    · rw [if_neg q, if_pos (hw.resolve_left q)]
      obtain ⟨V1, V2, b1, b2, b3, b4, b5, b6⟩ := pr_begin (N := N) (v := 9) hN hS hs (by omega) hpe hW (by omega)
      obtain ⟨V4, g1, g2, g3⟩ := pr_226 (N := N) (fu := fu) hN hS hs b2 b4 b6 ht
      refine ⟨V4, ?_, g2, g3⟩
      rw [pr_exG hN hS hs.1, if_neg n32, if_neg n33, if_neg n6, pr_186 hN hS hs.1, if_pos hw]
      unfold q_X12_expression_204
      rw [pk_ck hS.1, show q_X12_drops N Y V r 5 = some V1 from b1, pk_bs, show q_X12_isSign N Y V1 r 43 = _ from pr_sn (g := 43) hS b5 (by omega), pk_bs, pk_Bf q, if_pos z0]
      exact g1.1
  · subst q
    rw [tq_o6] at ho ⊢
    have hw : tq_sn T L p 42 ∨ tq_sn T L p 47 := by
      by_cases g : tq_sn T L p 42
      · exact Or.inl g
      · by_cases g2 : tq_sn T L p 47
        · exact Or.inr g2
        · rw [if_neg g, if_neg g2] at ho; exact absurd rfl ho
    have n6 : ¬ (tq_sn T L p 60 ∨ tq_sn T L p 61) := by
      rcases hw with g | g <;> rintro (g2 | g2) <;> exact absurd (tq_sn_u g g2) (by omega)
    have n5 : ¬ (tq_sn T L p 43 ∨ tq_sn T L p 45) := by
      rcases hw with g | g <;> rintro (g2 | g2) <;> exact absurd (tq_sn_u g g2) (by omega)
    have n32 : tq_w T L p ≠ 32 := by rcases hw with g | g <;> exact tq_sn_w g (by omega)
    have n33 : tq_w T L p ≠ 33 := by rcases hw with g | g <;> exact tq_sn_w g (by omega)
    by_cases q : tq_sn T L p 42
    · rw [if_pos q]
      obtain ⟨V1, V2, b1, b2, b3, b4, b5, b6⟩ := pr_begin (N := N) (v := 10) hN hS hs (by omega) hpe hW (by omega)
      obtain ⟨V4, g1, g2, g3⟩ := pr_226 (N := N) (fu := fu) hN hS hs b2 b4 b6 ht
      refine ⟨V4, ?_, g2, g3⟩
      rw [pr_exG hN hS hs.1, if_neg n32, if_neg n33, if_neg n6, pr_186 hN hS hs.1, if_neg n5, if_pos hw]
      unfold q_X12_expression_259
      rw [pk_ck hS.1, show q_X12_drops N Y V r 6 = some V1 from b1, pk_bs, show q_X12_isSign N Y V1 r 42 = _ from pr_sn (g := 42) hS b5 (by omega), pk_bs, pk_Bt q, if_neg pk_n10]
      exact g1.2
    · rw [if_neg q, if_pos (hw.resolve_left q)]
      obtain ⟨V1, V2, b1, b2, b3, b4, b5, b6⟩ := pr_begin (N := N) (v := 11) hN hS hs (by omega) hpe hW (by omega)
      obtain ⟨V4, g1, g2, g3⟩ := pr_226 (N := N) (fu := fu) hN hS hs b2 b4 b6 ht
      refine ⟨V4, ?_, g2, g3⟩
      rw [pr_exG hN hS hs.1, if_neg n32, if_neg n33, if_neg n6, pr_186 hN hS hs.1, if_neg n5, if_pos hw]
      unfold q_X12_expression_259
      rw [pk_ck hS.1, show q_X12_drops N Y V r 6 = some V1 from b1, pk_bs, show q_X12_isSign N Y V1 r 42 = _ from pr_sn (g := 42) hS b5 (by omega), pk_bs, pk_Bf q, if_pos z0]
      exact g1.2
theorem pr_161 (hN : 1000 ≤ N) (hS : pk_Rf Y r) (hs : pk_SR r V T L p gg K (pe ++ W) d td) (hb : q_X12_waitsFor N Y V' r (nI v) = some V2) (hf : pk_frM r V V2) (hx : pk_SX r V2 gg (K ++ pe) (v :: W) d td) (ht : tq_k T L p ≠ 0) : ∃ V4, q_X12_expression_161 N Y (q_X12_expression_29 N Y fu) V' r (nI 1) r (nI v) = (q_X12_operand_4 N Y N V4 r (nI 0) (nI 1)).bind (pk_Ex N Y r fu) ∧ pk_frX r V V4 ∧ pk_SR r V4 T L (tq_e T L p) gg (K ++ pe) (v :: W) d (tq_tu td d 1) := by
  obtain ⟨f1, x1⟩ := hx.tst (v := 1)
  have e48 : bk_rI V2 r 48 = nI d := hx.2.2.2.2.2.1
  have d6 : d ≤ 6 := hx.2.2.2.2.2.2.1
  obtain ⟨V4, g1, g2, g3⟩ := pr_goS (N := N) hN hS hs (K2 := K ++ pe) (W2 := v :: W) (pr_begL hs).1 (pr_begL hs).2 (hf.tr f1) x1 ht
  refine ⟨V4, ?_, g2, g3⟩
  unfold q_X12_expression_161
  rw [pk_ck hS.1, hb, pk_bs, e48]
  simp (disch := omega) only [hS, pk_ckT, pk_bs, pk_letE, pk_bd2E, pk_bd3E, if_true, if_false, eq_self, not_true_eq_false, not_false_eq_true, true_and, and_true, Nat.not_lt_zero, Nat.zero_le, Nat.reduceEqDiff, Nat.reduceLT, Nat.reduceLeDiff, pk_ck, pk_lit, nI_clamp, pk_inE, g1]
  rfl
theorem pr_ex4 (hN : 1000 ≤ N) (hS : pk_Rf Y r) (hs : pk_SR r V T L p gg K (pe ++ W) d td) (hd : 1 ≤ d) (ho : tq_o T L 4 p ≠ 0) (h0 : td d = 0) (hpe : ∀ o ∈ pe, tq_dr 4 o = true) (hW : tq_lo 4 W) : ∃ V', pk_Ex N Y r (fu + 1) V = (q_X12_operand_4 N Y N V' r (nI 0) (nI 1)).bind (pk_Ex N Y r fu) ∧ pk_frX r V V' ∧ pk_SR r V' T L (tq_e T L p) gg (K ++ pe) (sp_tag (tq_o T L 4 p) :: W) d (tq_tu td d 1) := by
  have ht := (tq_o_k ho).1
  have z0 : nI 0 = (0 : Int32) := rfl
  rw [tq_o4] at ho ⊢
  have hw : tq_sn T L p 60 ∨ tq_sn T L p 61 := by
    by_cases g : tq_sn T L p 60
    · exact Or.inl g
    · by_cases g2 : tq_sn T L p 61
      · exact Or.inr g2
      · rw [if_neg g, if_neg g2] at ho; exact absurd rfl ho
  have n32 : tq_w T L p ≠ 32 := by rcases hw with g | g <;> exact tq_sn_w g (by omega)
  have n33 : tq_w T L p ≠ 33 := by rcases hw with g | g <;> exact tq_sn_w g (by omega)
  have e48 : bk_rI V r 48 = nI d := hs.2.1.2.2.2.2.2.1
  have d6 : d ≤ 6 := hs.2.1.2.2.2.2.2.2.1
  have e14 : bk_rI V (r + 14) d = nI 0 := by rw [hs.2.1.2.2.2.2.2.2.2.1 d hd (Nat.le_refl _), h0]
  have e0 : q_X12_expression_127 N Y (q_X12_expression_29 N Y fu) V r (nI 1) = (q_X12_drops N Y V r (nI 4)).bind fun V1 => (q_X12_isSign N Y V1 r (nI 60)).bind fun x => if x = nI 0 then q_X12_expression_161 N Y (q_X12_expression_29 N Y fu) V1 r (nI 1) r (nI 7) else q_X12_expression_161 N Y (q_X12_expression_29 N Y fu) V1 r (nI 1) r (nI 6) := by
    unfold q_X12_expression_127
    rw [e48]
    simp (disch := omega) only [hS, pk_ckT, pk_bs, pk_letE, pk_bd2E, pk_bd3E, if_true, if_false, eq_self, not_true_eq_false, not_false_eq_true, true_and, and_true, Nat.not_lt_zero, Nat.zero_le, Nat.reduceEqDiff, Nat.reduceLT, Nat.reduceLeDiff, pk_ck, pk_lit, nI_clamp, pk_inE, e14]
  by_cases q : tq_sn T L p 60
  · rw [if_pos q]
    obtain ⟨V1, V2, b1, b2, b3, b4, b5, b6⟩ := pr_begin (N := N) (v := 6) hN hS hs (by omega) hpe hW (by omega)
    obtain ⟨V4, g1, g2, g3⟩ := pr_161 (N := N) (fu := fu) hN hS hs b2 b4 b6 ht
    refine ⟨V4, ?_, g2, g3⟩
    rw [pr_exG hN hS hs.1, if_neg n32, if_neg n33, if_pos hw, e0, b1, pk_bs, pr_sn (g := 60) hS b5 (by omega), pk_bs, pk_Bt q, if_neg (show ¬ nI 1 = nI 0 by decide), g1]
  · rw [if_neg q, if_pos (hw.resolve_left q)]
    obtain ⟨V1, V2, b1, b2, b3, b4, b5, b6⟩ := pr_begin (N := N) (v := 7) hN hS hs (by omega) hpe hW (by omega)
    obtain ⟨V4, g1, g2, g3⟩ := pr_161 (N := N) (fu := fu) hN hS hs b2 b4 b6 ht
    refine ⟨V4, ?_, g2, g3⟩
    rw [pr_exG hN hS hs.1, if_neg n32, if_neg n33, if_pos hw, e0, b1, pk_bs, pr_sn (g := 60) hS b5 (by omega), pk_bs, pk_Bf q, if_pos rfl, g1]
theorem pr_exS (hN : 1000 ≤ N) (hS : pk_Rf Y r) (hs : pk_SR r V T L p gg K W d td) (hd : 1 ≤ d) (hsp : tq_sp T L 1 p (td d)) (hc : tq_sn T L p 41 → W.any (fun o => decide (14 ≤ o)) = false) : pk_Ex N Y r (fu + 2) V = q_X12_expression_325 N Y V r := by
  have o1 := hsp.1 1 (by omega) (Or.inl rfl)
  have o2 := hsp.1 2 (by omega) (Or.inr (Or.inl rfl))
  have o5 := hsp.1 5 (by omega) (Or.inr (Or.inr (Or.inl rfl)))
  have o6 := hsp.1 6 (by omega) (Or.inr (Or.inr (Or.inr rfl)))
  have o4 := hsp.2 (by omega)
  rw [tq_o1] at o1
  rw [tq_o2] at o2
  rw [tq_o5] at o5
  rw [tq_o6] at o6
  rw [tq_o4] at o4
  have n33 : ¬ tq_w T L p = 33 := fun g => by rw [if_pos g] at o1; omega
  have n32 : ¬ tq_w T L p = 32 := fun g => by rw [if_pos g] at o2; omega
  have n43 : ¬ tq_sn T L p 43 := fun g => by rw [if_pos g] at o5; omega
  have n45 : ¬ tq_sn T L p 45 := fun g => by rw [if_neg n43, if_pos g] at o5; omega
  have n42 : ¬ tq_sn T L p 42 := fun g => by rw [if_pos g] at o6; omega
  have n47 : ¬ tq_sn T L p 47 := fun g => by rw [if_neg n42, if_pos g] at o6; omega
  have e48 : bk_rI V r 48 = nI d := hs.2.1.2.2.2.2.2.1
  have d6 : d ≤ 6 := hs.2.1.2.2.2.2.2.2.1
  have z0 : nI 0 = (0 : Int32) := rfl
  have e1 : q_X12_expression_29 N Y (fu + 1) V r (nI 0) = q_X12_expression_325 N Y V r := by
    rw [q_X12_expression_29, if_pos z0]
  have e186 : q_X12_expression_186 N Y (q_X12_expression_29 N Y (fu + 1)) V r (nI 1) = q_X12_expression_325 N Y V r := by
    rw [pr_186 hN hS hs.1, if_neg (by rintro (g | g); exact n43 g; exact n45 g), if_neg (by rintro (g | g); exact n42 g; exact n47 g)]
    by_cases q : tq_sn T L p 41
    · rw [if_pos q, pr_isOp hN hS hs, pk_bs, pk_Bf (by rw [hc q]; exact fun g => Bool.noConfusion g), if_pos rfl, e1]
    · rw [if_neg q, e1]
  rw [pr_exG hN hS hs.1, if_neg n32, if_neg n33]
  by_cases q : tq_sn T L p 60 ∨ tq_sn T L p 61
  · rw [if_pos q]
    have t1 : td d = 1 := by
      rcases o4 with g | g
      · rcases q with q | q
        · rw [if_pos q] at g; omega
        · by_cases q2 : tq_sn T L p 60
          · rw [if_pos q2] at g; omega
          · rw [if_neg q2, if_pos q] at g; omega
      · exact g
    have e14 : bk_rI V (r + 14) d = nI 1 := by rw [hs.2.1.2.2.2.2.2.2.2.1 d hd (Nat.le_refl _), t1]
    unfold q_X12_expression_127
    rw [e48]
    simp (disch := omega) only [hS, pk_ckT, pk_bs, pk_letE, pk_bd2E, pk_bd3E, if_true, if_false, eq_self, not_true_eq_false, not_false_eq_true, true_and, and_true, Nat.not_lt_zero, Nat.zero_le, Nat.reduceEqDiff, Nat.reduceLT, Nat.reduceLeDiff, pk_ck, nI_clamp, pk_inE, e14]
    rw [if_neg pk_n10]
    exact e186
  · rw [if_neg q]
    exact e186
theorem pr_exC (hN : 1000 ≤ N) (hS : pk_Rf Y r) (hs : pk_SR r V T L p gg K (pe ++ 14 :: W) (w + 1) td) (hpe : ∀ o ∈ pe, tq_dr 0 o = true) (hc : tq_sn T L p 41) : ∃ V', pk_Ex N Y r (fu + 1) V = pk_Ex N Y r fu V' ∧ pk_frX r V V' ∧ pk_SR r V' T L (tq_e T L p) gg (K ++ pe) W w td := by
  obtain ⟨V', e1, e2, e3⟩ := pr_closes (N := N) hN hS hs hpe (by have := hc.1; omega)
  refine ⟨V', ?_, e2, e3⟩
  have u : ∀ k, k ≠ 41 → ¬ tq_sn T L p k := fun k hk g => hk (tq_sn_u g hc)
  rw [pr_exG hN hS hs.1, if_neg (tq_sn_w hc (by omega)), if_neg (tq_sn_w hc (by omega)), if_neg (by rintro (g | g) <;> exact u _ (by omega) g), pr_186 hN hS hs.1, if_neg (by rintro (g | g) <;> exact u _ (by omega) g), if_neg (by rintro (g | g) <;> exact u _ (by omega) g), if_pos hc, pr_isOp hN hS hs, pk_bs, pk_Bt (by rw [List.any_append, List.any_cons]; show (_ || (true || _)) = true; rw [Bool.true_or, Bool.or_true]), if_neg (show ¬ nI 1 = nI 0 by decide), e1, pk_bs]
  rfl
end
