/-! the reference's machine: brackets, operators, the end -/
/-- no operator of level l or above is waiting to be read -/
def tq_sp (T : Nat → Nat) (L l p b : Nat) : Prop := (∀ l', l ≤ l' → tq_lv l' → tq_o T L l' p = 0) ∧ (l ≤ 4 → tq_o T L 4 p = 0 ∨ b = 1)
section
variable {N z t u s tl r a b d k n j h m l p q q0 md wa s' i f e gg v S L g lo hi w o d2 fu : Nat} {Y Y' : bk_Lay} {V V' V2 : bk_Val} {x y x1 x2 x3 x4 x5 ee : Int32} {w1 w2 : Int64} {T T' R G In td td2 : Nat → Nat} {K W K2 W2 k1 pe c c2 : List Nat} {k4 : bk_Val → Nat → Int32 → Int32 → Option bk_Val} {k29 : bk_Val → Nat → Int32 → Option bk_Val}
theorem pk_SX.tst (hx : pk_SX r V gg K W d td) : pk_frM r V (bk_wI V (r + 14) d (nI v)) ∧ pk_SX r (bk_wI V (r + 14) d (nI v)) gg K W d (tq_tu td d v) := by
  obtain ⟨a1, a2, a3, a4, a5, a6, a7, a8, a9⟩ := hx
  refine ⟨pk_frM.wr (by omega), ?_, fun i hi => ?_, ?_, ?_, a5, ?_, a7, fun j q1 q2 => ?_, ?_⟩
  · rw [pk_rI_ne (by omega)]; exact a1
  · rw [pk_rI_ne (by omega)]; exact a2 i hi
  · rw [pk_rI_ne (by omega)]; exact a3
  · exact a4.of (pk_rowI (by omega)) W
  · rw [pk_rI_ne (by omega)]; exact a6
  · rw [pk_rI_same]
    unfold tq_tu
    by_cases g : j = d
    · rw [if_pos g, if_pos g]
    · rw [if_neg g, if_neg g]; exact a8 j q1 q2
  · rw [pk_rI_ne (by omega)]; exact a9
theorem pk_SX.dep (hx : pk_SX r V gg K W d td) (hw : w ≤ 6) (ht : ∀ j, 1 ≤ j → j ≤ w → bk_rI V (r + 14) j = nI (td2 j)) : pk_frM r V (bk_wI V r 48 (nI w)) ∧ pk_SX r (bk_wI V r 48 (nI w)) gg K W w td2 := by
  obtain ⟨a1, a2, a3, a4, a5, a6, a7, a8, a9⟩ := hx
  refine ⟨pk_frM.ws (by omega), ?_, fun i hi => ?_, ?_, ?_, a5, ?_, hw, fun j q1 q2 => ?_, ?_⟩
  · rw [pk_rI_same, if_neg (by omega)]; exact a1
  · rw [pk_rI_ne (by omega)]; exact a2 i hi
  · rw [pk_rI_same, if_neg (by omega)]; exact a3
  · exact a4.of (pk_rowI (by omega)) W
  · rw [pk_rI_same, if_pos rfl]
  · rw [pk_rI_ne (by omega)]; exact ht j q1 q2
  · rw [pk_rI_same, if_neg (by omega)]; exact a9
theorem pr_deepY (hS : pk_Rf Y r) (hx : pk_SX r V gg K W w td) (hw : w < 6) : ∃ V', q_X12_deeper N Y V r = some V' ∧ pk_frM r V V' ∧ pk_SX r V' gg K W (w + 1) (tq_tu td (w + 1) 0) := by
  obtain ⟨a1, a2, a3, a4, a5, a6, a7, a8, a9⟩ := hx
  refine ⟨bk_wI (bk_wI V r 48 (nI (w + 1))) (r + 14) (w + 1) (nI 0), ?_, (pk_frM.ws (by omega)).tr (pk_frM.wr (by omega)), ?_, fun i hi => ?_, ?_, ?_, a5, ?_, by omega, fun j q1 q2 => ?_, ?_⟩
  · unfold q_X12_deeper
    have e2 : bk_rI (bk_wI V r 48 (nI (w + 1))) r 48 = nI (w + 1) := by rw [pk_rI_same, if_pos rfl]
    rw [pk_ck hS.1, a6, if_neg (show ¬ (6 : Int32) ≤ nI w from (show ¬ nI 6 ≤ nI w by rw [nI_leI (by omega) (by omega)]; omega))]
    simp (disch := omega) only [hS, pk_ckT, pk_bs, pk_letE, pk_bd2E, pk_bd3E, if_true, if_false, eq_self, not_true_eq_false, not_false_eq_true, true_and, and_true, Nat.not_lt_zero, Nat.zero_le, Nat.reduceEqDiff, Nat.reduceLT, Nat.reduceLeDiff, pk_ck, pk_lit, nI_add, e2, nI_clamp, pk_inE]
  · rw [pk_rI_ne (by omega), pk_rI_same, if_neg (by omega)]; exact a1
  · rw [pk_rI_ne (by omega), pk_rI_ne (by omega)]; exact a2 i hi
  · rw [pk_rI_ne (by omega), pk_rI_same, if_neg (by omega)]; exact a3
  · exact a4.of (by rw [pk_rowI (by omega), pk_rowI (by omega)]) W
  · rw [pk_rI_ne (by omega), pk_rI_same, if_pos rfl]
  · rw [pk_rI_same]
    unfold tq_tu
    by_cases g : j = w + 1
    · rw [if_pos g, if_pos g]
    · rw [if_neg g, if_neg g, pk_rI_ne (by omega)]; exact a8 j q1 (by omega)
  · rw [pk_rI_ne (by omega), pk_rI_same, if_neg (by omega)]; exact a9
theorem pr_d61 (hS : pk_Rf Y r) : q_X12_deeper_61 N Y V r x = q_X12_wrong N Y V r x := by
  unfold q_X12_deeper_61
  rw [pk_ck hS.1]
  cases q_X12_wrong N Y V r x <;> rfl
theorem pr_deepN (hS : pk_Rf Y r) (hs : pk_SR r V T L p gg K W 6 td) : ∃ V', q_X12_deeper N Y V r = some V' ∧ pk_frX r V V' ∧ pk_FR r V' (if tq_k T L p = 2 ∨ tq_k T L p = 1 ∨ tq_sn T L p 40 then 2 else 1) (tq_s T L p) ∧ pk_SX r V' gg K W 6 td := by
  have ⟨a1, a2, a3, a4⟩ := hs
  have kb := tq_k_b (T := T) (L := L) (p := p)
  have e26 : bk_rI V r 26 = nI (tq_k T L p) := a1.2.1.2.1
  have e48 : bk_rI V r 48 = nI 6 := a2.2.2.2.2.2.1
  obtain ⟨V1, w1, w2, w3, -, -⟩ := pr_wrongY (N := N) (k := if tq_k T L p = 2 ∨ tq_k T L p = 1 ∨ tq_sn T L p 40 then 2 else 1) hS a1 (by split <;> omega)
  refine ⟨V1, ?_, w2.toX, w3, a2.frU w2⟩
  rw [← w1]
  unfold q_X12_deeper
  rw [pk_ck hS.1, e48, if_pos (show (6 : Int32) ≤ nI 6 by decide), e26]
  unfold q_X12_deeper_56
  by_cases q1 : tq_k T L p = 2
  · rw [if_pos (show nI (tq_k T L p) = (2 : Int32) from (by rw [q1]; rfl)), if_pos (Or.inl q1), pr_d61 hS]
    rfl
  rw [if_neg (show ¬ nI (tq_k T L p) = (2 : Int32) from (show ¬ nI (tq_k T L p) = nI 2 by rw [nI_eq (by omega) (by omega)]; exact q1))]
  by_cases q2 : tq_k T L p = 1
  · rw [if_pos (show nI (tq_k T L p) = (1 : Int32) from (by rw [q2]; rfl)), if_pos (Or.inr (Or.inl q2)), pr_d61 hS]
    rfl
  rw [if_neg (show ¬ nI (tq_k T L p) = (1 : Int32) from (show ¬ nI (tq_k T L p) = nI 1 by rw [nI_eq (by omega) (by omega)]; exact q2)), show q_X12_isSign N Y V r 40 = _ from pr_sn (g := 40) hS a1 (by omega), pk_bs]
  by_cases q3 : tq_sn T L p 40
  · rw [pk_Bt q3, if_neg pk_n10, if_pos (Or.inr (Or.inr q3)), pr_d61 hS]
    rfl
  · rw [pk_Bf q3, if_pos (show nI 0 = (0 : Int32) from rfl), if_neg (by rintro (g | g | g); exact q1 g; exact q2 g; exact q3 g), pr_d61 hS]
    rfl
theorem pr_op7 (hS : pk_Rf Y r) : ∀ (W : List Nat) (f : Nat), W.length < f → pk_wst V (r + 13) W → (∀ o ∈ W, o < 20) → W.length ≤ 950 → q_X12_isOpened_7 N Y f V r (nI W.length - nI 1) = some (pk_B (W.any (fun o => decide (14 ≤ o)) = true)) := by
  intro W
  induction W with
  | nil =>
    intro f hf _ _ _
    rw [show f = f - 1 + 1 by omega, List.length_nil, q_X12_isOpened_7, if_pos (show nI 0 - nI 1 < (0 : Int32) by decide)]
    unfold q_X12_isOpened_29
    rw [if_pos (show nI 0 - nI 1 < (0 : Int32) by decide)]
    rfl
  | cons o W ih =>
    intro f hf hw ho hl
    rw [List.length_cons] at hf hl
    have h0 := ho o List.mem_cons_self
    have i1 := ih (f - 1) (by omega) hw.2 (fun o' h' => ho o' (List.mem_cons_of_mem _ h')) (by omega)
    have e0 : nI (o :: W).length - nI 1 = nI W.length := by rw [List.length_cons, pk_sub (by omega), Nat.add_sub_cancel]
    have e1 : bk_rI V (r + 13) W.length = nI o := hw.1
    have e2 : nI W.length + (-1 : Int32) = nI W.length - nI 1 := (Int32.sub_eq_add_neg _ _).symm
    rw [e0, show f = f - 1 + 1 by omega, q_X12_isOpened_7, if_neg (show ¬ nI W.length < (0 : Int32) from (show ¬ nI W.length < nI 0 by rw [nI_ltI (by omega) (by omega)]; omega))]
    simp (disch := omega) only [hS, pk_ckT, pk_bs, pk_letE, pk_bd2E, pk_bd3E, if_true, if_false, eq_self, not_true_eq_false, not_false_eq_true, true_and, and_true, Nat.not_lt_zero, Nat.zero_le, Nat.reduceEqDiff, Nat.reduceLT, Nat.reduceLeDiff, pk_ck, nI_clamp, pk_inE, e1, pr_open h0]
    by_cases q : 14 ≤ o
    · rw [pk_Bt q, if_neg pk_n10]
      unfold q_X12_isOpened_29
      rw [if_neg (show ¬ nI W.length < (0 : Int32) from (show ¬ nI W.length < nI 0 by rw [nI_ltI (by omega) (by omega)]; omega)), pk_Bt (by rw [List.any_cons, decide_eq_true q, Bool.true_or])]
      rfl
    · rw [pk_Bf q, if_pos (show nI 0 = (0 : Int32) from rfl), e2, i1]
      rw [show (o :: W).any (fun o => decide (14 ≤ o)) = W.any (fun o => decide (14 ≤ o)) from by rw [List.any_cons, decide_eq_false q, Bool.false_or]]
theorem pr_isOp (hN : 1000 ≤ N) (hS : pk_Rf Y r) (hs : pk_SR r V T L p gg K W d td) : q_X12_isOpened N Y V r = some (pk_B (W.any (fun o => decide (14 ≤ o)) = true)) := by
  have ⟨a1, a2, a3, a4⟩ := hs
  have hp := a1.2.2.1
  have hL := a1.1.2.2.1
  unfold q_X12_isOpened
  rw [pk_ck hS.1, a2.2.2.1]
  exact pr_op7 hS W N (by omega) a2.2.2.2.1 a2.2.2.2.2.1 (by omega)
theorem pr_closes (hN : 1000 ≤ N) (hS : pk_Rf Y r) (hs : pk_SR r V T L p gg K (pe ++ 14 :: W) (w + 1) td) (hpe : ∀ o ∈ pe, tq_dr 0 o = true) (ht : tq_k T L p ≠ 0) : ∃ V', q_X12_closes N Y V r = some V' ∧ pk_frX r V V' ∧ pk_SR r V' T L (tq_e T L p) gg (K ++ pe) W w td := by
  obtain ⟨V1, e1, e2, e3⟩ := pr_drops (N := N) (lo := 0) hN hS (by omega) hs hpe (show tq_lo 0 (14 :: W) from rfl)
  have ⟨a1, ⟨b1, b2, b3, b4, b5, b6, b7, b8, b9⟩, a3, a4⟩ := e3
  rw [List.length_cons] at b3 a3 a4
  have hp := a1.2.2.1
  have hL := a1.1.2.2.1
  have x1 : pk_SX r (bk_wI V1 r 47 (nI W.length)) gg (K ++ pe) W (w + 1) td := ⟨by rw [pk_rI_same, if_neg (by omega)]; exact b1, fun i hi => by rw [pk_rI_ne (by omega)]; exact b2 i hi, by rw [pk_rI_same, if_pos rfl], pk_wst.of (pk_rowI (by omega)) W b4.2, fun o' ho' => b5 o' (List.mem_cons_of_mem _ ho'), by rw [pk_rI_same, if_neg (by omega)]; exact b6, b7, fun j q1 q2 => by rw [pk_rI_ne (by omega)]; exact b8 j q1 q2, by rw [pk_rI_same, if_neg (by omega)]; exact b9⟩
  obtain ⟨f2, x2⟩ := x1.dep (w := w) (td2 := td) (by omega) (fun j q1 q2 => x1.2.2.2.2.2.2.2.1 j q1 (by omega))
  have f3 : pk_frM r V1 (bk_wI (bk_wI V1 r 47 (nI W.length)) r 48 (nI w)) := (pk_frM.ws (by omega)).tr f2
  obtain ⟨V3, g1, g2, g3⟩ := pr_goS (N := N) hN hS e3 (K2 := K ++ pe) (W2 := W) (by rw [List.length_cons]; omega) (by rw [List.length_cons]; omega) f3 x2 ht
  refine ⟨V3, ?_, e2.toX.tr g2, g3⟩
  unfold q_X12_closes
  rw [pk_ck hS.1, show q_X12_drops N Y V r 0 = some V1 from e1, pk_bs, b3, show nI (W.length + 1) - 1 = nI W.length from (show nI (W.length + 1) - nI 1 = nI W.length by rw [pk_sub (by omega), Nat.add_sub_cancel]), pk_letE, show bk_rI (bk_wI V1 r 47 (nI W.length)) r 48 = nI (w + 1) from x1.2.2.2.2.2.1, show nI (w + 1) - 1 = nI w from (show nI (w + 1) - nI 1 = nI w by rw [pk_sub (by omega), Nat.add_sub_cancel]), pk_letE, g1, pk_bs]
/-- the loop's first turn -/
theorem pr_exG (hN : 1000 ≤ N) (hS : pk_Rf Y r) (h : pk_PR r V T L p) : pk_Ex N Y r (fu + 1) V = if tq_w T L p = 32 then q_X12_expression_57 N Y (q_X12_expression_29 N Y fu) V r (nI 1) (nI 32) else if tq_w T L p = 33 then q_X12_expression_57 N Y (q_X12_expression_29 N Y fu) V r (nI 1) (nI 33) else if tq_sn T L p 60 ∨ tq_sn T L p 61 then q_X12_expression_127 N Y (q_X12_expression_29 N Y fu) V r (nI 1) else q_X12_expression_186 N Y (q_X12_expression_29 N Y fu) V r (nI 1) := by
  have wb := tq_w_b (T := T) (L := L) (p := p)
  unfold pk_Ex
  rw [q_X12_expression_29, if_neg pk_n10, pk_ck hS.1, pr_goodY hS h.2.2.2, pk_bs, if_neg pk_n10, pr_known hN hS h.1.2.2.1 h.2.2.1 h.2.1, pk_bs]
  by_cases q1 : tq_w T L p = 32
  · rw [if_pos q1, show tq_wI (tq_w T L p) = nI 32 from (by rw [tq_wI_eq (by omega) (by omega)]; exact q1), if_pos (show nI 32 = (32 : Int32) from rfl)]
  rw [if_neg q1, if_neg (show ¬ tq_wI (tq_w T L p) = (32 : Int32) from (show ¬ tq_wI (tq_w T L p) = nI 32 by rw [tq_wI_eq (by omega) (by omega)]; exact q1))]
  by_cases q2 : tq_w T L p = 33
  · rw [if_pos q2, show tq_wI (tq_w T L p) = nI 33 from (by rw [tq_wI_eq (by omega) (by omega)]; exact q2), if_pos (show nI 33 = (33 : Int32) from rfl)]
  rw [if_neg q2, if_neg (show ¬ tq_wI (tq_w T L p) = (33 : Int32) from (show ¬ tq_wI (tq_w T L p) = nI 33 by rw [tq_wI_eq (by omega) (by omega)]; exact q2)), show q_X12_isSign N Y V r 60 = _ from pr_sn (g := 60) hS h (by omega), pk_bs]
  by_cases q3 : tq_sn T L p 60
  · rw [pk_Bt q3, if_neg pk_n10, if_pos (Or.inl q3)]
  rw [pk_Bf q3, if_pos (show nI 0 = (0 : Int32) from rfl), show q_X12_isSign N Y V r 61 = _ from pr_sn (g := 61) hS h (by omega), pk_bs]
  by_cases q4 : tq_sn T L p 61
  · rw [pk_Bt q4, if_neg pk_n10, if_pos (Or.inr q4)]
  rw [pk_Bf q4, if_pos (show nI 0 = (0 : Int32) from rfl), if_neg (by rintro (g | g); exact q3 g; exact q4 g)]
theorem pr_186 (hN : 1000 ≤ N) (hS : pk_Rf Y r) (h : pk_PR r V T L p) : q_X12_expression_186 N Y k29 V r (nI 1) = if tq_sn T L p 43 ∨ tq_sn T L p 45 then q_X12_expression_204 N Y k29 V r (nI 1) else if tq_sn T L p 42 ∨ tq_sn T L p 47 then q_X12_expression_259 N Y k29 V r (nI 1) else if tq_sn T L p 41 then (q_X12_isOpened N Y V r).bind fun x => if x = nI 0 then k29 V r (nI 0) else (q_X12_closes N Y V r).bind fun V2 => k29 V2 r (nI 1) else k29 V r (nI 0) := by
  unfold q_X12_expression_186
  have z0 : nI 0 = (0 : Int32) := rfl
  rw [pk_ck hS.1, show q_X12_isSign N Y V r 43 = _ from pr_sn (g := 43) hS h (by omega), pk_bs]
  by_cases q1 : tq_sn T L p 43
  · rw [pk_Bt q1, if_neg pk_n10, if_pos (Or.inl q1)]
  rw [pk_Bf q1, if_pos z0, show q_X12_isSign N Y V r 45 = _ from pr_sn (g := 45) hS h (by omega), pk_bs]
  by_cases q2 : tq_sn T L p 45
  · rw [pk_Bt q2, if_neg pk_n10, if_pos (Or.inr q2)]
  rw [pk_Bf q2, if_pos z0, if_neg (show ¬ (tq_sn T L p 43 ∨ tq_sn T L p 45) from by rintro (g | g); exact q1 g; exact q2 g), show q_X12_isSign N Y V r 42 = _ from pr_sn (g := 42) hS h (by omega), pk_bs]
  by_cases q3 : tq_sn T L p 42
  · rw [pk_Bt q3, if_neg pk_n10, if_pos (Or.inl q3)]
  rw [pk_Bf q3, if_pos z0, show q_X12_isSign N Y V r 47 = _ from pr_sn (g := 47) hS h (by omega), pk_bs]
  by_cases q4 : tq_sn T L p 47
  · rw [pk_Bt q4, if_neg pk_n10, if_pos (Or.inr q4)]
  rw [pk_Bf q4, if_pos z0, if_neg (show ¬ (tq_sn T L p 42 ∨ tq_sn T L p 47) from by rintro (g | g); exact q3 g; exact q4 g), show q_X12_isSign N Y V r 41 = _ from pr_sn (g := 41) hS h (by omega), pk_bs]
  unfold q_X12_expression_320 q_X12_expression_322
  by_cases q5 : tq_sn T L p 41
  · rw [pk_Bt q5, if_neg pk_n10, if_pos q5]
    rfl
  · rw [pk_Bf q5, if_pos z0, if_neg q5]
    rfl
end
