/-! all lines, and the loop over them -/
section
variable {N z t u s r a b c d k n j h m l p q q0 md wa s' i f gg v S L g lo hi w e : Nat} {Y Y2 Y' : bk_Lay} {V V' V1 V2 V8 : bk_Val} {x y x1 x2 x3 x4 x5 ee : Int32} {T T' R G In : Nat → Nat} {D D' : Nat → Nat → Nat} {P P' : Nat → List Nat} {B B' : Nat → Bool} {K : List Nat} {o : pk_O} {X : Option (Int32 × bk_Val)} {XR : Option bk_Val}
theorem ln_all (H : pk_lH N z u Y T L p D P B) : ∃ o, pk_oB L p o ∧ (∀ V, pk_LC z u V T L p D P B → pk_oC z u T L V (q_X8_readLine N Y V (z + 54)) o) ∧ ∀ Y2 V, pk_Rf Y2 r → pk_LR r V T L p D P B → pk_oR r T L V (q_X12_line0 N Y2 V r) o := by
  have hL := H.2.2.1
  have hN := H.1
  have key : pk_ln N z u r Y T L p D P B := by
    by_cases h20 : tq_w T L p = 20
    · exact ln_set (b := 1) H (by omega) h20
    by_cases h21 : tq_w T L p = 21
    · exact ln_set (b := 2) H (by omega) h21
    by_cases h22 : tq_w T L p = 22
    · exact ln_set (b := 3) H (by omega) h22
    by_cases h4 : tq_w T L p = 4
    · exact ln_set (b := 4) H (by omega) h4
    by_cases h23 : tq_w T L p = 23
    · exact ln_set (b := 5) H (by omega) h23
    by_cases h24 : tq_w T L p = 24
    · exact ln_clung H h24
    by_cases h25 : tq_w T L p = 25
    · exact ln_cause H h25
    by_cases h26 : tq_w T L p = 26
    · exact ln_try H h26
    by_cases h27 : tq_w T L p = 27
    · exact ln_rider H h27
    by_cases h30 : tq_w T L p = 30
    · exact ln_rule (h := 0) H (by omega) h30
    by_cases h31 : tq_w T L p = 31
    · exact ln_rule (h := 1) H (by omega) h31
    by_cases h18 : tq_w T L p = 18
    · exact ln_hole H h18
    exact ln_none H h18 h20 h21 h22 h4 h23 h24 h25 h26 h27 h30 h31
  obtain ⟨o, k1, k2, k3⟩ := key
  exact ⟨tq_tl T L o, k1.tl hL, k2, fun Y2 V hS h => pr_sgn (by omega) hS (k3 Y2 V hS h)⟩
/-- what holds at each line, or at the end -/
def pk_lE (N z u : Nat) (Y : bk_Lay) (L p : Nat) (D : Nat → Nat → Nat) (P : Nat → List Nat) (B : Nat → Bool) : Prop := 2000 ≤ N ∧ pk_cL N z u Y ∧ L ≤ 700 ∧ p ≤ L ∧ pk_DB D P ∧ (B 8 = false → P 0 = []) ∧ (B 9 = false → P 1 = [])
theorem pk_loopL (T : Nat → Nat) : ∀ n p D P B, L - p ≤ n → pk_lE N z u Y L p D P B → ∃ o : pk_O, (o.1 = 0 → o.2.1 ≤ L ∧ tq_k T L o.2.1 = 0 ∧ pk_DB o.2.2.1 o.2.2.2.1) ∧
    (∀ f V i, pk_LC z u V T L p D P B → L < f + p → i ≤ p → ∃ V', pk_fW z u V V' ∧ ((o.1 = 0 ∧ q_X8_tell_78 N f Y V (z + 54) (nI i) = q_X8_tell_113 N Y V' (z + 54) ∧ pk_LC z u V' T L o.2.1 o.2.2.1 o.2.2.2.1 o.2.2.2.2) ∨ (o.1 ≠ 0 ∧ q_X8_tell_78 N f Y V (z + 54) (nI i) = some (nI o.1, Y, V') ∧ pk_FC z V' o.1 o.2.1))) ∧
    (∀ Y2 f V x, pk_Rf Y2 r → pk_LR r V T L p D P B → L < f + p → ∃ V', pk_frW r V V' ∧ q_X12_shed_100 N Y2 f V r x = q_X12_shed_121 N Y2 V' r x ∧ ((o.1 = 0 ∧ pk_LR r V' T L o.2.1 o.2.2.1 o.2.2.2.1 o.2.2.2.2) ∨ (o.1 ≠ 0 ∧ pk_FR r V' o.1 o.2.1))) := by
  have ended : ∀ p D P B, tq_k T L p = 0 → pk_lE N z u Y L p D P B → ∃ o : pk_O, (o.1 = 0 → o.2.1 ≤ L ∧ tq_k T L o.2.1 = 0 ∧ pk_DB o.2.2.1 o.2.2.2.1) ∧
    (∀ f V i, pk_LC z u V T L p D P B → L < f + p → i ≤ p → ∃ V', pk_fW z u V V' ∧ ((o.1 = 0 ∧ q_X8_tell_78 N f Y V (z + 54) (nI i) = q_X8_tell_113 N Y V' (z + 54) ∧ pk_LC z u V' T L o.2.1 o.2.2.1 o.2.2.2.1 o.2.2.2.2) ∨ (o.1 ≠ 0 ∧ q_X8_tell_78 N f Y V (z + 54) (nI i) = some (nI o.1, Y, V') ∧ pk_FC z V' o.1 o.2.1))) ∧
    (∀ Y2 f V x, pk_Rf Y2 r → pk_LR r V T L p D P B → L < f + p → ∃ V', pk_frW r V V' ∧ q_X12_shed_100 N Y2 f V r x = q_X12_shed_121 N Y2 V' r x ∧ ((o.1 = 0 ∧ pk_LR r V' T L o.2.1 o.2.2.1 o.2.2.2.1 o.2.2.2.2) ∨ (o.1 ≠ 0 ∧ pk_FR r V' o.1 o.2.1))) := by
    intro p D P B hk ⟨hN, ⟨hN1, hM, hSd, hi, u1, u2⟩, hL, hp, hD, hP0, hP1⟩
    refine ⟨(0, p, D, P, B), fun _ => ⟨hp, hk, hD⟩, fun f V i h hf hip => ⟨V, pk_fW.rf, Or.inl ⟨rfl, ?_, h⟩⟩, fun Y2 f V x hS h hf => ⟨V, pk_frW.rf, ?_, Or.inl ⟨rfl, h⟩⟩⟩
    · have e4 : bk_rI V (z + 55) 4 = nI 0 := by rw [← hk]; exact h.1.2.1.2.2.2
      rw [show f = f - 1 + 1 by omega, q_X8_tell_78]
      simp only [hM, pk_ckT, pk_bs, pk_letE, pk_bd2E, pk_bd3E, if_true, if_false, eq_self, not_true_eq_false, not_false_eq_true, true_and, and_true, Nat.not_lt_zero, Nat.zero_le, Nat.reduceEqDiff, Nat.reduceLT, Nat.reduceLeDiff, pk_ck, pk_lit, e4, ite_self]
    · have e26 : bk_rI V r 26 = nI 0 := by rw [← hk]; exact h.1.2.1.2.1
      rw [show f = f - 1 + 1 by omega, q_X12_shed_100, pk_ck hS.1, pr_goodY hS h.1.2.2.2, pk_bs, if_neg pk_n10, e26, if_pos (show nI 0 = (0 : Int32) from rfl)]
  intro n
  induction n with
  | zero =>
    intro p D P B hn H
    by_cases hk : tq_k T L p = 0
    · exact ended p D P B hk H
    · obtain ⟨hN, hC, hL, hp, hD, hP0, hP1⟩ := H
      have := tq_e_gt (T := T) hL hp hk
      have := tq_e_le (T := T) hL hp
      omega
  | succ n ih =>
    intro p D P B hn H
    by_cases hk : tq_k T L p = 0
    · exact ended p D P B hk H
    have ⟨hN, hC, hL, hp, hD, hP0, hP1⟩ := H
    have ⟨hN1, hM, hSd, hi, u1, u2⟩ := hC
    have kb := tq_k_b (T := T) (L := L) (p := p)
    have e1 := tq_e_gt (T := T) hL hp hk
    have e2 := tq_e_le (T := T) hL hp
    obtain ⟨o1, l1, l2, l3⟩ := ln_all (N := N) (r := r) (T := T) ⟨hN, hC, hL, hp, hD, hP0, hP1, hk⟩
    have cE : ∀ f V i, pk_LC z u V T L p D P B → L < f + p → i ≤ p → q_X8_tell_78 N f Y V (z + 54) (nI i) = bk_bd2 (q_X8_readLine N Y V (z + 54)) (fun r_21 V_22 => if r_21 = nI 0 then some (bk_rI V_22 (z + 54) 4, Y, V_22) else q_X8_tell_78 N (f - 1) Y V_22 (z + 54) (nI (i + 1))) := by
      intro f V i h hf hip
      have e4 : bk_rI V (z + 55) 4 = nI (tq_k T L p) := h.1.2.1.2.2.2
      obtain ⟨f', rfl⟩ : ∃ f', f = f' + 1 := ⟨f - 1, by omega⟩
      rw [q_X8_tell_78, if_neg (show ¬ (700 : Int32) ≤ nI i from (show ¬ nI 700 ≤ nI i by rw [nI_leI (by omega) (by omega)]; omega))]
      simp (disch := omega) only [hM, pk_ckT, pk_bs, pk_letE, pk_bd2E, pk_bd3E, if_true, if_false, eq_self, not_true_eq_false, not_false_eq_true, true_and, and_true, Nat.not_lt_zero, Nat.zero_le, Nat.reduceEqDiff, Nat.reduceLT, Nat.reduceLeDiff, pk_ck, pk_lit, e4, nI_eq, hk, nI_add, Nat.add_sub_cancel]
    have rE : ∀ Y2 f V x, pk_Rf Y2 r → pk_LR r V T L p D P B → L < f + p → q_X12_shed_100 N Y2 f V r x = (q_X12_line0 N Y2 V r).bind (fun V_94 => q_X12_shed_100 N Y2 (f - 1) V_94 r x) := by
      intro Y2 f V x hS h hf
      have e26 : bk_rI V r 26 = nI (tq_k T L p) := h.1.2.1.2.1
      obtain ⟨f', rfl⟩ : ∃ f', f = f' + 1 := ⟨f - 1, by omega⟩
      rw [q_X12_shed_100, pk_ck hS.1, pr_goodY hS h.1.2.2.2, pk_bs, if_neg pk_n10, e26, if_neg (show ¬ nI (tq_k T L p) = (0 : Int32) from (show ¬ nI (tq_k T L p) = nI 0 by rw [nI_eq (by omega) (by omega)]; exact hk)), Nat.add_sub_cancel]
    by_cases q : o1.1 = 0
    · obtain ⟨b1, b2, b3, b4, b5⟩ := l1 q
      obtain ⟨o, i1, i2, i3⟩ := ih o1.2.1 o1.2.2.1 o1.2.2.2.1 o1.2.2.2.2 (by omega) ⟨hN, hC, hL, b2, b3, b4, b5⟩
      refine ⟨o, i1, fun f V i h hf hip => ?_, fun Y2 f V x hS h hf => ?_⟩
      · rcases l2 V h with ⟨-, V1, c1, c2, c3⟩ | ⟨g, -⟩
        · obtain ⟨V2, d1, d2⟩ := i2 (f - 1) V1 (i + 1) c3 (by omega) (by omega)
          refine ⟨V2, c2.tr d1, ?_⟩
          rw [cE f V i h hf hip, c1, pk_bd2E, if_neg (show ¬ nI 1 = nI 0 by decide)]
          exact d2
        · exact absurd q g
      · rcases l3 Y2 V hS h with ⟨-, V1, c1, c2, c3⟩ | ⟨g, -⟩
        · obtain ⟨V2, d1, d2⟩ := i3 Y2 (f - 1) V1 x hS c3 (by omega)
          refine ⟨V2, c2.tr d1, ?_⟩
          rw [rE Y2 f V x hS h hf, c1, pk_bs]
          exact d2
        · exact absurd q g
    · refine ⟨o1, fun g => absurd g q, fun f V i h hf hip => ?_, fun Y2 f V x hS h hf => ?_⟩
      · rcases l2 V h with ⟨g, -⟩ | ⟨-, V1, c1, c2, c3⟩
        · exact absurd g q
        · refine ⟨V1, c2, Or.inr ⟨q, ?_, c3⟩⟩
          rw [cE f V i h hf hip, c1, pk_bd2E, if_pos rfl, c3.1]
      · rcases l3 Y2 V hS h with ⟨g, -⟩ | ⟨-, V1, c1, c2, c3⟩
        · exact absurd g q
        · refine ⟨V1, c2, ?_, Or.inr ⟨q, c3⟩⟩
          rw [rE Y2 f V x hS h hf, c1, pk_bs, show f - 1 = f - 2 + 1 by omega, q_X12_shed_100, pk_ck hS.1, pr_goodN hS c3, pk_bs, if_pos (show nI 0 = (0 : Int32) from rfl)]
end
