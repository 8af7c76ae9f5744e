/-! the class's dip, before it believes -/
section
variable {N z t u s tl r a b c d k n j h m l p q0 md wa s' i f e gg v : Nat} {Y Y' : bk_Lay} {V V' V2 W : bk_Val} {x y x1 x2 x3 x4 x5 : Int32} {w1 w2 : Int64} {D : Nat → Nat → Nat} {P : Nat → List Nat} {T T' w R : Nat → Nat} {st st' g : pk_St} {hs hs' : List pk_St} {img img' : Option (pk_St × List pk_St)} {pl : Option (Nat → Nat)} {fp r0 r1 : Int32} {A B : pk_A}
theorem sp_lookE (hd : 12 ≤ d) (hi : i < d) (hq : a < d) (hj : j < 12) : (a = (i + j) % d) = ((a + d - i) % d = j) := by
  apply propext
  have e1 : (a + d - i) % d = if i ≤ a then a - i else a + d - i := by
    by_cases c : i ≤ a
    · rw [if_pos c, show a + d - i = (a - i) + d by omega, Nat.add_mod_right, Nat.mod_eq_of_lt (by omega)]
    · rw [if_neg c, Nat.mod_eq_of_lt (by omega)]
  have e2 : (i + j) % d = if i + j < d then i + j else i + j - d := by
    by_cases c : i + j < d
    · rw [if_pos c, Nat.mod_eq_of_lt c]
    · rw [if_neg c, Nat.mod_eq_sub_mod (by omega), Nat.mod_eq_of_lt (by omega)]
  rw [e1, e2]
  split <;> split <;> omega
theorem pc_dip41 (hN : 1000 ≤ N) (hM : pk_Mn Y z) (hz : bk_rR Y z 5 = some t) (hS : pk_Sd Y t) (hT : pk_CT V t D P) (hB : pk_DB D P) (hi : i < D 0 0) (hk : k ≤ 600) (hs : bk_sh Y wa = (3, 4 * D 0 0)) (hF : ∀ p, w p ≤ 1000000000000000) (hw : ∀ p, p < 4 * D 0 0 → bk_rL V wa p = lN (w p)) : ∃ V', q_X11_dip_41 N N Y V z (nI i) (nI k) wa 0 = (bk_bd3 (q_X11_believe N Y V' z wa) fun r_12 Y_13 V_14 => some (r_12, Y_13, V_14)) ∧ V'.1 = V.1 ∧ (∀ b, b ≠ wa → V'.2 b = V.2 b) ∧ ∀ p, p < 4 * D 0 0 → bk_rL V' wa p = lN (sp_dk D w i k p) := by
  have b0 := hB.1
  have b1 := hB.2.1
  have b2 := hB.2.2.1
  refine loop_i (σ := bk_Val) (fun fu j V1 => ∃ V', q_X11_dip_41 N fu Y V1 z (nI i) (nI k) wa (nI j) = (bk_bd3 (q_X11_believe N Y V' z wa) fun r_12 Y_13 V_14 => some (r_12, Y_13, V_14)) ∧ V'.1 = V.1 ∧ (∀ b, b ≠ wa → V'.2 b = V.2 b) ∧ ∀ p, p < 4 * D 0 0 → bk_rL V' wa p = lN (sp_dk D w i k p)) (fun j V1 => V1.1 = V.1 ∧ (∀ b, b ≠ wa → V1.2 b = V.2 b) ∧ ∀ p, p < 4 * D 0 0 → bk_rL V1 wa p = lN (if (p / 4 + D 0 0 - i) % D 0 0 < j then sp_les (D 0 2) (w p) k else w p)) (D 0 1) ?_ ?_ N 0 V (by omega) (by omega) ⟨rfl, fun _ _ => rfl, fun p hp => by rw [if_neg (by omega)]; exact hw p hp⟩
  · intro fu V1 hV
    have hT1 : pk_CT V1 t D P := by
      have q := hT
      unfold pk_CT pk_CR bk_rI at q ⊢
      rw [hV.1]
      exact q
    refine ⟨V1, ?_, hV.1, hV.2.1, fun p hp => ?_⟩
    · rw [q_X11_dip_41]
      simp (disch := omega) only [hM, hz, hS, pk_ckT, pk_bs, pk_letE, pk_bd2E, pk_bd3E, if_true, if_false, eq_self, not_true_eq_false, not_false_eq_true, true_and, and_true, Nat.not_lt_zero, Nat.zero_le, Nat.reduceEqDiff, Nat.reduceLT, Nat.reduceLeDiff, pk_ck, pc_hand hS hT1, nI_leI, Nat.le_refl]
    · rw [hV.2.2 p hp, sp_dk_e]
      by_cases c : (p / 4 + D 0 0 - i) % D 0 0 < D 0 1
      · rw [if_pos c, if_pos ⟨hp, c⟩]
      · rw [if_neg c, if_neg (fun q => c q.2)]
  · intro fu j V1 hj hV ih
    have hT1 : pk_CT V1 t D P := by
      have q := hT
      unfold pk_CT pk_CR bk_rI at q ⊢
      rw [hV.1]
      exact q
    have hq : (i + j) % D 0 0 < D 0 0 := Nat.mod_lt _ (by omega)
    obtain ⟨V3, q1, q2, q3, q4⟩ := pc_lessen (N := N) (Y := Y) (V := V1) (wa := wa) (i := (i + j) % D 0 0) (m := D 0 2) (k := k) (w := fun p => if (p / 4 + D 0 0 - i) % D 0 0 < j then sp_les (D 0 2) (w p) k else w p) hN hs (by omega) (by omega) (by omega) hk (fun p => by
      show (if (p / 4 + D 0 0 - i) % D 0 0 < j then sp_les (D 0 2) (w p) k else w p) ≤ _
      split
      · exact Nat.le_trans (sp_les_le (by omega) k) (hF p)
      · exact hF p) hV.2.2
    have ih' := ih V3 ⟨q2.trans hV.1, fun b hb => (q3 b hb).trans (hV.2.1 b hb), fun p hp => by
      rw [q4 p hp]
      simp only [sp_lookE b0.1 hi (show p / 4 < D 0 0 by omega) (show j < 12 by omega)]
      by_cases c : (p / 4 + D 0 0 - i) % D 0 0 = j
      · rw [if_pos c, if_neg (by omega), if_pos (by omega)]
      · rw [if_neg c]
        by_cases c2 : (p / 4 + D 0 0 - i) % D 0 0 < j
        · rw [if_pos c2, if_pos (by omega)]
        · rw [if_neg c2, if_neg (by omega)]⟩
    rw [q_X11_dip_41]
    simp (disch := omega) only [hM, hz, hS, pk_ckT, pk_bs, pk_letE, pk_bd2E, pk_bd3E, if_true, if_false, eq_self, not_true_eq_false, not_false_eq_true, true_and, and_true, Nat.not_lt_zero, Nat.zero_le, Nat.reduceEqDiff, Nat.reduceLT, Nat.reduceLeDiff, pk_ck, pc_hand hS hT1, nI_leI, nI_add, pc_round hS hT1 hB, pc_miss hS hT1, q1, pk_lit]
    rw [if_neg (by omega)]
    exact ih'
end
