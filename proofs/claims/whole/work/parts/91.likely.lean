/-! the likeliest place; weights made less -/
section
variable {N z t u s tl r a b c d k n j h m l p q0 md wa s' i f e gg v : Nat} {Y Y' : bk_Lay} {V V' V2 W : bk_Val} {x y x1 x2 x3 x4 x5 : Int32} {w1 w2 : Int64} {D : Nat → Nat → Nat} {P : Nat → List Nat} {T T' w R : Nat → Nat} {st st' g : pk_St} {hs hs' : List pk_St} {img img' : Option (pk_St × List pk_St)} {pl : Option (Nat → Nat)} {fp r0 r1 : Int32} {A B : pk_A}
theorem pc_likeliest (hN : 1000 ≤ N) (hs : bk_sh Y wa = (3, n)) (hn : 0 < n ∧ n ≤ 336) (hF : ∀ p, w p ≤ 900000000000000000) (hw : ∀ p, p < n → bk_rL V wa p = lN (w p)) : q_X0_likeliest N Y V wa = some (nI (sp_best w n)) := by
  have e0 : q_X0_likeliest N Y V wa = q_X0_likeliest_4 N Y N V wa (nI (sp_best w 1)) (nI 1) := by
    rw [sp_best1]
    rfl
  rw [e0]
  refine loop_i (σ := Unit) (fun fu i _ => q_X0_likeliest_4 N Y fu V wa (nI (sp_best w i)) (nI i) = some (nI (sp_best w n))) (fun i _ => 0 < i) n ?_ ?_ N 1 () (by omega) (by omega) (by omega)
  · intro fu _ _
    rw [q_X0_likeliest_4]
    simp (disch := omega) only [hs, pk_ckT, pk_bs, pk_letE, pk_bd2E, pk_bd3E, if_true, if_false, eq_self, not_true_eq_false, not_false_eq_true, true_and, and_true, Nat.not_lt_zero, Nat.zero_le, Nat.reduceEqDiff, Nat.reduceLT, Nat.reduceLeDiff, pk_ck, nI_leI, Nat.le_refl]
  · intro fu i _ hi h0 ih
    have ih' := ih () (by omega)
    have hb := hF i
    have hc := hF (sp_best w i)
    have hl := sp_best_lt (f := w) i h0
    rw [q_X0_likeliest_4]
    simp (disch := omega) only [hs, pk_ckT, pk_bs, pk_letE, pk_bd2E, pk_bd3E, if_true, if_false, eq_self, not_true_eq_false, not_false_eq_true, true_and, and_true, Nat.not_lt_zero, Nat.zero_le, Nat.reduceEqDiff, Nat.reduceLT, Nat.reduceLeDiff, pk_ck, pk_lit, nI_add, pk_mul, nI_clamp, nI_leI, nI_ltI, nI_eq, pk_div, pk_remE, pk_inE, pk_sub, hw i hi, hw (sp_best w i) (by omega), pk_cmpL, pk_lLE, q_X0_likeliest_22]
    rw [if_neg (by omega)]
    by_cases c : w (sp_best w i) < w i
    · rw [if_neg (by omega)]
      rw [show sp_best w (i + 1) = i from if_pos c] at ih'
      exact ih'
    · rw [if_pos (by omega)]
      rw [show sp_best w (i + 1) = sp_best w i from if_neg c] at ih'
      exact ih'
theorem pr_likeliest (hN : 1000 ≤ N) (hS : pk_Rf Y r) (h1 : bk_rI V r 1 = nI d) (hd : 12 ≤ d ∧ d ≤ 84) (hF : ∀ p, w p ≤ 900000000000000000) (hw : ∀ p, p < 4 * d → bk_rL V (r + 15) p = lN (w p)) : q_X12_likeliest N Y V r = some (nI (sp_best w (4 * d))) := by
  have e0 : q_X12_likeliest N Y V r = q_X12_likeliest_4 N Y N V r (nI (sp_best w 1)) (nI 1) := by
    rw [sp_best1]
    rfl
  rw [e0]
  refine loop_i (σ := Unit) (fun fu i _ => q_X12_likeliest_4 N Y fu V r (nI (sp_best w i)) (nI i) = some (nI (sp_best w (4 * d)))) (fun i _ => 0 < i) (4 * d) ?_ ?_ N 1 () (by omega) (by omega) (by omega)
  · intro fu _ _
    rw [q_X12_likeliest_4]
    simp (disch := omega) only [hS, h1, pk_ckT, pk_bs, pk_letE, pk_bd2E, pk_bd3E, if_true, if_false, eq_self, not_true_eq_false, not_false_eq_true, true_and, and_true, Nat.not_lt_zero, Nat.zero_le, Nat.reduceEqDiff, Nat.reduceLT, Nat.reduceLeDiff, pk_ck, pk_lit, pk_mul, nI_leI, Nat.le_refl]
  · intro fu i _ hi h0 ih
    have ih' := ih () (by omega)
    have hb := hF i
    have hc := hF (sp_best w i)
    have hl := sp_best_lt (f := w) i h0
    rw [q_X12_likeliest_4]
    simp (disch := omega) only [hS, h1, pk_ckT, pk_bs, pk_letE, pk_bd2E, pk_bd3E, if_true, if_false, eq_self, not_true_eq_false, not_false_eq_true, true_and, and_true, Nat.not_lt_zero, Nat.zero_le, Nat.reduceEqDiff, Nat.reduceLT, Nat.reduceLeDiff, pk_ck, pk_lit, nI_add, pk_mul, nI_clamp, nI_leI, nI_ltI, nI_eq, pk_div, pk_remE, pk_inE, pk_sub, hw i hi, hw (sp_best w i) (by omega), pk_cmpL, pk_lLE, q_X12_likeliest_32]
    rw [if_neg (by omega)]
    by_cases c : w (sp_best w i) < w i
    · rw [if_neg (by omega)]
      rw [show sp_best w (i + 1) = i from if_pos c] at ih'
      exact ih'
    · rw [if_pos (by omega)]
      rw [show sp_best w (i + 1) = sp_best w i from if_neg c] at ih'
      exact ih'
/-! a weight made less k times -/
def sp_les (m v : Nat) : Nat → Nat
  | 0 => v
  | k + 1 => sp_les m v k * m / 100
theorem sp_les_0 (h : sp_les m v j = 0) : ∀ k, sp_les m v (j + k) = 0
  | 0 => h
  | k + 1 => by
    show sp_les m v (j + k) * m / 100 = 0
    rw [sp_les_0 h k, Nat.zero_mul, Nat.zero_div]
theorem sp_les_le (hm : m ≤ 100) : ∀ k, sp_les m v k ≤ v
  | 0 => Nat.le_refl _
  | k + 1 => by
    have h1 := sp_les_le hm k
    have h2 : sp_les m v k * m ≤ sp_les m v k * 100 := Nat.mul_le_mul_left _ hm
    show sp_les m v k * m / 100 ≤ v
    omega
theorem pc_less36 {K : bk_Val → Nat → Int32 → Int32 → Int32 → Int32 → Option bk_Val} (hN : 1000 ≤ N) (hm : m ≤ 100) (hk : k ≤ 600) (hv : v ≤ 1000000000000000) : q_X0_lessenInch_36 N Y K N V a x1 (nI m) (nI k) x4 (lN v) 0 = q_X0_lessenInch_66 N Y K V a x1 (nI m) (nI k) x4 (lN (sp_les m v k)) := by
  refine loop_i (σ := Unit) (fun fu j _ => q_X0_lessenInch_36 N Y K fu V a x1 (nI m) (nI k) x4 (lN (sp_les m v j)) (nI j) = q_X0_lessenInch_66 N Y K V a x1 (nI m) (nI k) x4 (lN (sp_les m v k))) (fun _ _ => True) k ?_ ?_ N 0 () (by omega) (by omega) trivial
  · intro fu _ _
    rw [q_X0_lessenInch_36, if_pos (nI_le (by omega) (by omega))]
  · intro fu j _ hj _ ih
    have ih' := ih () trivial
    have hl := sp_les_le (v := v) hm j
    have h2 : sp_les m v j * m ≤ sp_les m v j * 100 := Nat.mul_le_mul_left _ hm
    rw [q_X0_lessenInch_36]
    simp (disch := omega) only [pk_ckT, pk_bs, pk_letE, pk_bd2E, pk_bd3E, if_true, if_false, eq_self, not_true_eq_false, not_false_eq_true, true_and, and_true, Nat.not_lt_zero, Nat.zero_le, Nat.reduceEqDiff, Nat.reduceLT, Nat.reduceLeDiff, pk_ck, pk_lit, nI_leI, pk_litL, pk_cmpL, pk_lLE, nI_l, lN_mul, pk_lDiv, nI_add]
    rw [if_neg (by omega)]
    by_cases c : sp_les m v j = 0
    · have e1 := sp_les_0 c (k - j)
      rw [show j + (k - j) = k by omega] at e1
      rw [if_pos (by omega), c, e1]
    · rw [if_neg (by omega)]
      exact ih'
/-- an inch's four weights made less -/
theorem pc_lessen (hN : 1000 ≤ N) (hs : bk_sh Y wa = (3, n)) (hn : n ≤ 336) (hi : 4 * i + 4 ≤ n) (hm : m ≤ 100) (hk : k ≤ 600) (hF : ∀ p, w p ≤ 1000000000000000) (hw : ∀ p, p < n → bk_rL V wa p = lN (w p)) : ∃ V', q_X0_lessenInch N Y V wa (nI i) (nI m) (nI k) = some V' ∧ V'.1 = V.1 ∧ (∀ b, b ≠ wa → V'.2 b = V.2 b) ∧ ∀ p, p < n → bk_rL V' wa p = lN (if p / 4 = i then sp_les m (w p) k else w p) := by
  have e0 : q_X0_lessenInch N Y V wa (nI i) (nI m) (nI k) = q_X0_lessenInch_5 N Y N V wa (nI i) (nI m) (nI k) (nI (4 * i + 0)) := by
    rw [Nat.add_zero, ← pk_mul]
    rfl
  rw [e0]
  refine loop_i (σ := bk_Val) (fun fu j V1 => ∃ V', q_X0_lessenInch_5 N Y fu V1 wa (nI i) (nI m) (nI k) (nI (4 * i + j)) = some V' ∧ V'.1 = V.1 ∧ (∀ b, b ≠ wa → V'.2 b = V.2 b) ∧ ∀ p, p < n → bk_rL V' wa p = lN (if p / 4 = i then sp_les m (w p) k else w p)) (fun j V1 => V1.1 = V.1 ∧ (∀ b, b ≠ wa → V1.2 b = V.2 b) ∧ ∀ p, p < n → bk_rL V1 wa p = lN (if p / 4 = i ∧ p < 4 * i + j then sp_les m (w p) k else w p)) 4 ?_ ?_ N 0 V (by omega) (by omega) ⟨rfl, fun _ _ => rfl, fun p hp => by rw [if_neg (by omega)]; exact hw p hp⟩
  · intro fu V1 hV
    refine ⟨V1, ?_, hV.1, hV.2.1, fun p hp => ?_⟩
    · rw [q_X0_lessenInch_5]
      simp (disch := omega) only [pk_lit, nI_add, pk_mul, nI_clamp, nI_leI, nI_ltI, nI_eq, pk_div, pk_remE, pk_inE, pk_sub]
      rw [if_neg (by omega), if_pos (by omega)]
    · rw [hV.2.2 p hp]
      by_cases c : p / 4 = i
      · rw [if_pos (by omega), if_pos c]
      · rw [if_neg (by omega), if_neg c]
  · intro fu j V1 hj hV ih
    have e1 := hV.2.2 (4 * i + j) (by omega)
    rw [if_neg (by omega)] at e1
    obtain ⟨V', q1, q2⟩ := ih (bk_wL V1 wa (4 * i + j) (lN (sp_les m (w (4 * i + j)) k))) ⟨hV.1, fun b hb => (pk_rowL (by omega)).trans (hV.2.1 b hb), fun p hp => by
      rw [pk_rL_same]
      by_cases c : p = 4 * i + j
      · rw [if_pos c, if_pos (by omega), c]
      · rw [if_neg c, hV.2.2 p hp]
        by_cases c2 : p / 4 = i ∧ p < 4 * i + j
        · rw [if_pos c2, if_pos (by omega)]
        · rw [if_neg c2, if_neg (by omega)]⟩
    refine ⟨V', ?_, q2⟩
    rw [q_X0_lessenInch_5]
    simp (disch := omega) only [hs, pk_ckT, pk_bs, pk_letE, pk_bd2E, pk_bd3E, if_true, if_false, eq_self, not_true_eq_false, not_false_eq_true, true_and, and_true, Nat.not_lt_zero, Nat.zero_le, Nat.reduceEqDiff, Nat.reduceLT, Nat.reduceLeDiff, pk_ck, pk_lit, nI_add, pk_mul, nI_clamp, nI_leI, nI_ltI, nI_eq, pk_div, pk_remE, pk_inE, pk_sub, e1]
    rw [if_neg (by omega), if_neg (by omega)]
    refine Eq.trans (pc_less36 hN hm hk (hF _)) ?_
    rw [q_X0_lessenInch_66]
    simp (disch := omega) only [hs, pk_ckT, pk_bs, pk_letE, pk_bd2E, pk_bd3E, if_true, if_false, eq_self, not_true_eq_false, not_false_eq_true, true_and, and_true, Nat.not_lt_zero, Nat.zero_le, Nat.reduceEqDiff, Nat.reduceLT, Nat.reduceLeDiff, pk_ck, pk_lit, nI_add, pk_mul, nI_clamp, nI_leI, nI_ltI, nI_eq, pk_div, pk_remE, pk_inE, pk_sub]
    exact q1
end
