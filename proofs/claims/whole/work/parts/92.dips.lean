/-! the reference's dips: one look -/
section
variable {N z t u s tl r a b c d k n j h m l p q0 md wa s' i f e gg v : Nat} {Y Y' : bk_Lay} {V V' V2 W : bk_Val} {x y x1 x2 x3 x4 x5 : Int32} {w1 w2 : Int64} {D : Nat → Nat → Nat} {P : Nat → List Nat} {T T' w R : Nat → Nat} {st st' g : pk_St} {hs hs' : List pk_St} {img img' : Option (pk_St × List pk_St)} {pl : Option (Nat → Nat)} {fp r0 r1 : Int32} {A B : pk_A}
theorem pk_sbneg : ∀ i, i < 85 → ∀ j, j < i → ¬ nI 0 ≤ nI j - nI i := by decide +kernel
theorem pr_looked (hS : pk_Rf Y r) (h1 : bk_rI V r 1 = nI (D 0 0)) (h2 : bk_rI V r 2 = nI (D 0 1)) (hd : 12 ≤ D 0 0 ∧ D 0 0 ≤ 84) (hd1 : D 0 1 ≤ 9) (hj : j < D 0 0) (hi : i < D 0 0) : q_X12_isLooked N Y V r (nI j) (nI i) = some (pk_B (sp_look D j i)) := by
  have fin : ∀ q, q < D 0 0 → (j + D 0 0 - i) % D 0 0 = q → q_X12_isLooked_15 N Y V r (nI q) = some (pk_B (sp_look D j i)) := by
    intro q hq e
    unfold q_X12_isLooked_15
    simp (disch := omega) only [hS, h2, pk_ckT, pk_bs, pk_letE, pk_bd2E, pk_bd3E, if_true, if_false, eq_self, not_true_eq_false, not_false_eq_true, true_and, and_true, Nat.not_lt_zero, Nat.zero_le, Nat.reduceEqDiff, Nat.reduceLT, Nat.reduceLeDiff, pk_ck, nI_leI]
    by_cases c : D 0 1 ≤ q
    · rw [if_pos c, pk_Bf (by show ¬ (j + D 0 0 - i) % D 0 0 < D 0 1; omega)]
      rfl
    · rw [if_neg c, pk_Bt (by show (j + D 0 0 - i) % D 0 0 < D 0 1; omega)]
      rfl
  unfold q_X12_isLooked
  by_cases c : i ≤ j
  · rw [pk_sub (by omega)]
    rw [if_pos (show (0 : Int32) ≤ nI (j - i) from nI_le (a := 0) (by omega) (by omega))]
    refine fin (j - i) (by omega) ?_
    rw [show j + D 0 0 - i = (j - i) + D 0 0 by omega, Nat.add_mod_right, Nat.mod_eq_of_lt (by omega)]
  · rw [if_neg (show ¬ (0 : Int32) ≤ nI j - nI i from pk_sbneg i (by omega) j (by omega)), pk_ck hS.1, pk_letE, h1]
    have e1 : nI j - nI i + nI (D 0 0) = nI (j + D 0 0 - i) := by
      rw [← pk_sub (show i ≤ j + D 0 0 by omega), ← nI_add, Int32.sub_eq_add_neg, Int32.sub_eq_add_neg, Int32.add_assoc, Int32.add_assoc, Int32.add_comm (-nI i)]
    rw [e1]
    exact fin _ (by omega) (Nat.mod_eq_of_lt (by omega))
theorem pr_dips (hN : 1000 ≤ N) (hS : pk_Rf Y r) (h1 : bk_rI V r 1 = nI (D 0 0)) (h2 : bk_rI V r 2 = nI (D 0 1)) (h3 : bk_rI V r 3 = nI (D 0 2)) (hB : pk_DB D P) (hi : i < D 0 0) (hs : bk_sh Y b = (3, n)) (hn : 4 * D 0 0 ≤ n) (hn2 : n < 2 ^ 31) (hF : ∀ p, w p ≤ 1000000000000000) (hw : ∀ p, p < n → bk_rL V b p = lN (w p)) : ∃ V', q_X12_dips N Y V r b (nI i) = some V' ∧ V'.1 = V.1 ∧ (∀ c, c ≠ b → V'.2 c = V.2 c) ∧ ∀ p, p < n → bk_rL V' b p = lN (sp_dip D w i p) := by
  have b0 := hB.1
  have b1 := hB.2.1
  have b2 := hB.2.2.1
  refine loop_i (σ := bk_Val) (fun fu j V1 => ∃ V', q_X12_dips_2 N Y fu V1 r b (nI i) (nI j) = some V' ∧ V'.1 = V.1 ∧ (∀ c, c ≠ b → V'.2 c = V.2 c) ∧ ∀ p, p < n → bk_rL V' b p = lN (sp_dip D w i p)) (fun j V1 => V1.1 = V.1 ∧ (∀ c, c ≠ b → V1.2 c = V.2 c) ∧ ∀ p, p < n → bk_rL V1 b p = lN (if p < j then sp_dip D w i p else w p)) (4 * D 0 0) ?_ ?_ N 0 V (by omega) (by omega) ⟨rfl, fun _ _ => rfl, fun p hp => by rw [if_neg (by omega)]; exact hw p hp⟩
  · intro fu V1 hV
    have g1 : bk_rI V1 r 1 = nI (D 0 0) := by rw [← h1]; unfold bk_rI; rw [hV.1]
    refine ⟨V1, ?_, hV.1, hV.2.1, fun p hp => ?_⟩
    · rw [q_X12_dips_2]
      simp (disch := omega) only [hS, g1, pk_ckT, pk_bs, pk_letE, pk_bd2E, pk_bd3E, if_true, if_false, eq_self, not_true_eq_false, not_false_eq_true, true_and, and_true, Nat.not_lt_zero, Nat.zero_le, Nat.reduceEqDiff, Nat.reduceLT, Nat.reduceLeDiff, pk_ck, pk_lit, nI_add, pk_mul, nI_clamp, nI_leI, nI_ltI, nI_eq, pk_div, pk_remE, pk_inE, pk_sub, Nat.le_refl]
    · rw [hV.2.2 p hp]
      by_cases c : p < 4 * D 0 0
      · rw [if_pos c]
      · rw [if_neg c]
        unfold sp_dip
        rw [if_neg (fun q => c q.1)]
  · intro fu j V1 hj hV ih
    have g1 : bk_rI V1 r 1 = nI (D 0 0) := by rw [← h1]; unfold bk_rI; rw [hV.1]
    have g2 : bk_rI V1 r 2 = nI (D 0 1) := by rw [← h2]; unfold bk_rI; rw [hV.1]
    have g3 : bk_rI V1 r 3 = nI (D 0 2) := by rw [← h3]; unfold bk_rI; rw [hV.1]
    have e1 := hV.2.2 j (by omega)
    rw [if_neg (by omega)] at e1
    have lk := pr_looked (N := N) (V := V1) hS g1 g2 b0 b1.2 (show j / 4 < D 0 0 by omega) hi
    rw [q_X12_dips_2]
    simp (disch := omega) only [hS, g1, g3, hs, pk_ckT, pk_bs, pk_letE, pk_bd2E, pk_bd3E, if_true, if_false, eq_self, not_true_eq_false, not_false_eq_true, true_and, and_true, Nat.not_lt_zero, Nat.zero_le, Nat.reduceEqDiff, Nat.reduceLT, Nat.reduceLeDiff, pk_ck, pk_lit, nI_add, pk_mul, nI_clamp, nI_leI, nI_ltI, nI_eq, pk_div, pk_remE, pk_inE, pk_sub, lk, pk_B0, e1, q_X12_dips_39, nI_l, pk_litL, lN_mul]
    rw [if_neg (by omega)]
    by_cases c : sp_look D (j / 4) i
    · have hF1 := hF j
      have hx : w j * D 0 2 ≤ 1000000000000000 * 99 := Nat.mul_le_mul hF1 b2.2
      rw [if_neg (fun q => q c), pk_lDiv (by omega) (by omega) (by omega)]
      refine ih _ ⟨hV.1, fun d hd => (pk_rowL (by omega)).trans (hV.2.1 d hd), fun p hp => ?_⟩
      rw [pk_rL_same]
      by_cases cp : p = j
      · rw [if_pos cp, if_pos (by omega), cp]
        unfold sp_dip
        rw [if_pos ⟨hj, c⟩]
      · rw [if_neg cp, hV.2.2 p hp]
        by_cases c2 : p < j
        · rw [if_pos c2, if_pos (by omega)]
        · rw [if_neg c2, if_neg (by omega)]
    · rw [if_pos c]
      refine ih _ ⟨hV.1, hV.2.1, fun p hp => ?_⟩
      rw [hV.2.2 p hp]
      by_cases cp : p = j
      · rw [if_neg (by omega), if_pos (by omega), cp]
        unfold sp_dip
        rw [if_neg (fun q => c q.2)]
      · by_cases c2 : p < j
        · rw [if_pos c2, if_pos (by omega)]
        · rw [if_neg c2, if_neg (by omega)]
end
