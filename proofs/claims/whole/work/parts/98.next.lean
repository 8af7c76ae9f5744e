/-! the next inch to dip at: numbers, the reference -/
section
variable {N z t u s tl r a b c d k n j h m l p q q0 md wa s' i f e gg v : Nat} {Y Y' : bk_Lay} {V V' V2 W : bk_Val} {x y x1 x2 x3 x4 x5 : Int32} {w1 w2 : Int64} {D : Nat → Nat → Nat} {P : Nat → List Nat} {T T' w R G : Nat → Nat} {st st' g : pk_St} {hs hs' : List pk_St} {img img' : Option (pk_St × List pk_St)} {pl : Option (Nat → Nat)} {fp r0 r1 : Int32} {A B : pk_A}
theorem sp_sum_sh {f : Nat → Nat} : ∀ n, sp_sum f (n + 1) = f 0 + sp_sum (fun k => f (k + 1)) n
  | 0 => by show 0 + f 0 = f 0 + 0; omega
  | n + 1 => by
    have := sp_sum_sh (f := f) n
    show sp_sum f (n + 1) + f (n + 1) = f 0 + (sp_sum (fun k => f (k + 1)) n + f (n + 1))
    omega
/-- a sum in which one place changes -/
theorem sp_sum_one {f g : Nat → Nat} : ∀ n, a < n → (∀ i, i < n → i ≠ a → f i = g i) → sp_sum f n + g a = sp_sum g n + f a
  | 0, h, _ => by omega
  | n + 1, h, hh => by
    show sp_sum f n + f n + g a = sp_sum g n + g n + f a
    by_cases c : a = n
    · have := sp_sum_congr (f := f) (g := g) (n := n) (fun i hi => hh i (by omega) (by omega))
      rw [this, c]
      omega
    · have := sp_sum_one (f := f) (g := g) n (by omega) (fun i hi => hh i (by omega))
      have e := hh n (by omega) (by omega)
      omega
theorem sp_in_le (hF : ∀ p, w p ≤ 1000000000000000) (i : Nat) : sp_in w i ≤ 4000000000000000 := by
  have h0 := hF (4 * i)
  have h1 := hF (4 * i + 1)
  have h2 := hF (4 * i + 2)
  have h3 := hF (4 * i + 3)
  unfold sp_in
  omega
theorem sp_win_le (hB : pk_DB D P) (hF : ∀ p, w p ≤ 1000000000000000) (i : Nat) : sp_win D w i ≤ 36000000000000000 := by
  have h := sp_sum_le (f := fun k => sp_in w ((i + k) % D 0 0)) (m := 4000000000000000) (n := D 0 1) (fun k _ => sp_in_le hF _)
  have b1 := hB.2.1
  have h2 : D 0 1 * 4000000000000000 ≤ 9 * 4000000000000000 := Nat.mul_le_mul_right _ b1.2
  unfold sp_win
  omega
theorem sp_win_s (i : Nat) : sp_win D w (i + 1) + sp_in w (i % D 0 0) = sp_win D w i + sp_in w ((i + D 0 1) % D 0 0) := by
  have h : sp_sum (fun k => sp_in w ((i + k) % D 0 0)) (D 0 1 + 1) = sp_in w (i % D 0 0) + sp_sum (fun k => sp_in w ((i + (k + 1)) % D 0 0)) (D 0 1) := sp_sum_sh (f := fun k => sp_in w ((i + k) % D 0 0)) (D 0 1)
  have h2 : sp_sum (fun k => sp_in w ((i + k) % D 0 0)) (D 0 1 + 1) = sp_sum (fun k => sp_in w ((i + k) % D 0 0)) (D 0 1) + sp_in w ((i + D 0 1) % D 0 0) := rfl
  have h3 : sp_sum (fun k => sp_in w ((i + 1 + k) % D 0 0)) (D 0 1) = sp_sum (fun k => sp_in w ((i + (k + 1)) % D 0 0)) (D 0 1) := sp_sum_congr (fun k _ => by
    show sp_in w ((i + 1 + k) % D 0 0) = sp_in w ((i + (k + 1)) % D 0 0)
    rw [Nat.add_assoc, Nat.add_comm 1 k])
  unfold sp_win
  rw [h3]
  omega
theorem sp_dip_le (hm : D 0 2 ≤ 99) (hF : ∀ p, w p ≤ m) (p : Nat) : sp_dip D w i p ≤ m := by
  have h := hF p
  unfold sp_dip
  split
  · have h2 : w p * D 0 2 ≤ w p * 100 := Nat.mul_le_mul_left _ (by omega)
    omega
  · exact h
theorem sp_rt_le (hm : D 0 2 ≤ 99) (hF : ∀ p, w p ≤ m) : ∀ k p, sp_rt D w k p ≤ m
  | 0, p => hF p
  | k + 1, p => sp_dip_le hm (sp_rt_le hm hF k) p
theorem sp_rt_z (hz : ∀ p, 4 * D 0 0 ≤ p → w p = 0) : ∀ k p, 4 * D 0 0 ≤ p → sp_rt D w k p = 0
  | 0, p, hp => hz p hp
  | k + 1, p, hp => by
    show sp_dip D (sp_rt D w k) _ p = 0
    unfold sp_dip
    rw [if_neg (fun q => by have := q.1; omega)]
    exact sp_rt_z hz k p hp
theorem sp_next_lt (hB : pk_DB D P) : sp_next D w < D 0 0 := sp_best_lt _ (by have := hB.1; omega)
/-- the weights copied -/
theorem pr_copyW (hN : 1000 ≤ N) (hS : pk_Rf Y r) (hw : ∀ p, p < 336 → bk_rL V (r + 15) p = lN (w p)) : ∃ V', q_X12_copiesWeights N Y V r = some V' ∧ V'.1 = V.1 ∧ (∀ c, c ≠ r + 20 → V'.2 c = V.2 c) ∧ ∀ p, p < 336 → bk_rL V' (r + 20) p = lN (w p) := by
  refine loop_i (σ := bk_Val) (fun fu j V1 => ∃ V', q_X12_copiesWeights_2 N Y fu V1 r (nI j) = some V' ∧ V'.1 = V.1 ∧ (∀ c, c ≠ r + 20 → V'.2 c = V.2 c) ∧ ∀ p, p < 336 → bk_rL V' (r + 20) p = lN (w p)) (fun j V1 => V1.1 = V.1 ∧ (∀ c, c ≠ r + 20 → V1.2 c = V.2 c) ∧ ∀ p, p < j → bk_rL V1 (r + 20) p = lN (w p)) 336 ?_ ?_ N 0 V (by omega) (by omega) ⟨rfl, fun _ _ => rfl, fun p hp => by omega⟩
  · intro fu V1 hV
    exact ⟨V1, by rw [q_X12_copiesWeights_2, if_pos (by decide)], hV⟩
  · intro fu j V1 hj hV ih
    have e1 : bk_rL V1 (r + 15) j = lN (w j) := by
      rw [← hw j hj]
      exact congrFun (hV.2.1 (r + 15) (by omega)) j
    rw [q_X12_copiesWeights_2]
    simp (disch := omega) only [hS, pk_ckT, pk_bs, pk_letE, pk_bd2E, pk_bd3E, if_true, if_false, eq_self, not_true_eq_false, not_false_eq_true, true_and, and_true, Nat.not_lt_zero, Nat.zero_le, Nat.reduceEqDiff, Nat.reduceLT, Nat.reduceLeDiff, pk_ck, pk_lit, nI_add, pk_mul, nI_clamp, nI_leI, nI_ltI, nI_eq, pk_div, pk_remE, pk_inE, pk_sub, e1]
    rw [if_neg (by omega)]
    refine ih _ ⟨hV.1, fun c hc => (pk_rowL hc).trans (hV.2.1 c hc), fun p hp => ?_⟩
    rw [pk_rL_same]
    by_cases c : p = j
    · rw [if_pos c, c]
    · rw [if_neg c]
      exact hV.2.2 p (by omega)
theorem pr_n75 {K : bk_Val → Nat → Int32 → Int64 → Int32 → Option (Int32 × bk_Val)} (hN : 1000 ≤ N) (hS : pk_Rf Y r) (h1 : bk_rI V r 1 = nI (D 0 0)) (h2 : bk_rI V r 2 = nI (D 0 1)) (hB : pk_DB D P) (hi : i < D 0 0) (hw : ∀ j, j < D 0 0 → bk_rL V (r + 21) j = lN (sp_in w j)) : q_X12_nextOf_75 N Y K N V r x w2 (nI i) 0 0 = if w2 < lN (sp_win D w i) then K V r (nI i) (lN (sp_win D w i)) (nI (i + 1)) else K V r x w2 (nI (i + 1)) := by
  have b0 := hB.1
  have b1 := hB.2.1
  refine loop_i (σ := Unit) (fun fu j _ => q_X12_nextOf_75 N Y K fu V r x w2 (nI i) (lN (sp_sum (fun k => sp_in w ((i + k) % D 0 0)) j)) (nI j) = if w2 < lN (sp_win D w i) then K V r (nI i) (lN (sp_win D w i)) (nI (i + 1)) else K V r x w2 (nI (i + 1))) (fun _ _ => True) (D 0 1) ?_ ?_ N 0 () (by omega) (by omega) trivial
  · intro fu _ _
    show q_X12_nextOf_75 N Y K (fu + 1) V r x w2 (nI i) (lN (sp_win D w i)) (nI (D 0 1)) = _
    generalize sp_win D w i = S
    rw [q_X12_nextOf_75]
    simp (disch := omega) only [hS, h2, pk_ckT, pk_bs, pk_letE, pk_bd2E, pk_bd3E, if_true, if_false, eq_self, not_true_eq_false, not_false_eq_true, true_and, and_true, Nat.not_lt_zero, Nat.zero_le, Nat.reduceEqDiff, Nat.reduceLT, Nat.reduceLeDiff, pk_ck, pk_lit, nI_add, pk_mul, nI_clamp, nI_leI, nI_ltI, nI_eq, pk_div, pk_remE, pk_inE, pk_sub, Nat.le_refl, pk_cmpG, q_X12_nextOf_126]
  · intro fu j _ hj _ ih
    have hm : (i + j) % D 0 0 < D 0 0 := Nat.mod_lt _ (by omega)
    have ih' : q_X12_nextOf_75 N Y K fu V r x w2 (nI i) (lN (sp_sum (fun k => sp_in w ((i + k) % D 0 0)) j + sp_in w ((i + j) % D 0 0))) (nI (j + 1)) = if w2 < lN (sp_win D w i) then K V r (nI i) (lN (sp_win D w i)) (nI (i + 1)) else K V r x w2 (nI (i + 1)) := ih () trivial
    rw [← ih', q_X12_nextOf_75]
    simp (disch := omega) only [hS, h1, h2, pk_ckT, pk_bs, pk_letE, pk_bd2E, pk_bd3E, if_true, if_false, eq_self, not_true_eq_false, not_false_eq_true, true_and, and_true, Nat.not_lt_zero, Nat.zero_le, Nat.reduceEqDiff, Nat.reduceLT, Nat.reduceLeDiff, pk_ck, pk_lit, nI_add, pk_mul, nI_clamp, nI_leI, nI_ltI, nI_eq, pk_div, pk_remE, pk_inE, pk_sub]
    rw [if_neg (by omega)]
    simp (disch := omega) only [hw ((i + j) % D 0 0) hm, lN_add]
theorem pr_n60 (hN : 1000 ≤ N) (hS : pk_Rf Y r) (h1 : bk_rI V r 1 = nI (D 0 0)) (h2 : bk_rI V r 2 = nI (D 0 1)) (hB : pk_DB D P) (hF : ∀ p, w p ≤ 1000000000000000) (hw : ∀ j, j < D 0 0 → bk_rL V (r + 21) j = lN (sp_in w j)) : q_X12_nextOf_60 N Y N V r 0 (-1) 0 = some (nI (sp_next D w), V) := by
  have b0 := hB.1
  obtain ⟨m, hm⟩ : ∃ m, N = m + 1 := ⟨N - 1, by omega⟩
  have hG := sp_win_le (w := w) hB hF
  have hG0 := hG 0
  have e0 : q_X12_nextOf_60 N Y N V r 0 (-1) 0 = q_X12_nextOf_60 N Y m V r (nI (sp_best (sp_win D w) 1)) (lN (sp_win D w (sp_best (sp_win D w) 1))) (nI 1) := by
    rw [sp_best1]
    conv => lhs; arg 3; rw [hm]
    rw [q_X12_nextOf_60, pk_ck hS.1, h1, if_neg (show ¬ nI (D 0 0) ≤ (0 : Int32) from (show ¬ nI (D 0 0) ≤ nI 0 by rw [nI_leI (by omega) (by omega)]; omega))]
    have := pr_n75 (K := q_X12_nextOf_60 N Y m) (x := 0) (w2 := -1) (i := 0) (w := w) hN hS h1 h2 hB (by omega) hw
    refine Eq.trans this ?_
    rw [if_pos]
    show (-1 : Int64) < lN (sp_win D w 0)
    rw [Int64.lt_iff_toInt_lt, show (lN (sp_win D w 0)).toInt = ((sp_win D w 0 : Nat) : Int) from lg_ofNat_toInt (by omega)]
    exact Int.lt_of_lt_of_le (by decide) (Int.natCast_nonneg _)
  rw [e0]
  refine loop_i (σ := Unit) (fun fu i _ => q_X12_nextOf_60 N Y fu V r (nI (sp_best (sp_win D w) i)) (lN (sp_win D w (sp_best (sp_win D w) i))) (nI i) = some (nI (sp_next D w), V)) (fun _ _ => True) (D 0 0) ?_ ?_ m 1 () (by omega) (by omega) trivial
  · intro fu _ _
    rw [q_X12_nextOf_60, pk_ck hS.1, h1, if_pos (nI_le (by omega) (by omega))]
    rfl
  · intro fu i _ hi _ ih
    have ih' := ih () trivial
    have hb := hG i
    have hc := hG (sp_best (sp_win D w) i)
    rw [q_X12_nextOf_60, pk_ck hS.1, h1, if_neg (by rw [nI_leI (by omega) (by omega)]; omega)]
    refine Eq.trans (pr_n75 (K := q_X12_nextOf_60 N Y fu) hN hS h1 h2 hB hi hw) ?_
    by_cases c : sp_win D w (sp_best (sp_win D w) i) < sp_win D w i
    · simp (disch := omega) only [pk_lLT]
      rw [if_pos c]
      rw [show sp_best (sp_win D w) (i + 1) = i from if_pos c] at ih'
      exact ih'
    · simp (disch := omega) only [pk_lLT]
      rw [if_neg c]
      rw [show sp_best (sp_win D w) (i + 1) = sp_best (sp_win D w) i from if_neg c] at ih'
      exact ih'
theorem pr_nextOf (hN : 1000 ≤ N) (hS : pk_Rf Y r) (h1 : bk_rI V r 1 = nI (D 0 0)) (h2 : bk_rI V r 2 = nI (D 0 1)) (hB : pk_DB D P) (hF : ∀ p, w p ≤ 1000000000000000) (hw : ∀ p, p < 336 → bk_rL V (r + 20) p = lN (w p)) : ∃ V', q_X12_nextOf N Y V r (r + 20) = some (nI (sp_next D w), V') ∧ V'.1 = V.1 ∧ ∀ c, c ≠ r + 21 → V'.2 c = V.2 c := by
  have b0 := hB.1
  refine loop_i (σ := bk_Val) (fun fu j V1 => ∃ V', q_X12_nextOf_2 N Y fu V1 r (r + 20) (nI j) = some (nI (sp_next D w), V') ∧ V'.1 = V.1 ∧ ∀ c, c ≠ r + 21 → V'.2 c = V.2 c) (fun j V1 => V1.1 = V.1 ∧ (∀ c, c ≠ r + 21 → V1.2 c = V.2 c) ∧ ∀ i, i < j → bk_rL V1 (r + 21) i = lN (sp_in w i)) (D 0 0) ?_ ?_ N 0 V (by omega) (by omega) ⟨rfl, fun _ _ => rfl, fun p hp => by omega⟩
  · intro fu V1 hV
    have g1 : bk_rI V1 r 1 = nI (D 0 0) := by rw [← h1]; unfold bk_rI; rw [hV.1]
    have g2 : bk_rI V1 r 2 = nI (D 0 1) := by rw [← h2]; unfold bk_rI; rw [hV.1]
    refine ⟨V1, ?_, hV.1, hV.2.1⟩
    rw [q_X12_nextOf_2, pk_ck hS.1, g1, if_pos (nI_le (by omega) (by omega))]
    exact pr_n60 hN hS g1 g2 hB hF hV.2.2
  · intro fu j V1 hj hV ih
    have g1 : bk_rI V1 r 1 = nI (D 0 0) := by rw [← h1]; unfold bk_rI; rw [hV.1]
    have e1 : ∀ p, p < 336 → bk_rL V1 (r + 20) p = lN (w p) := fun p hp => by
      rw [← hw p hp]
      exact congrFun (hV.2.1 (r + 20) (by omega)) p
    rw [q_X12_nextOf_2]
    simp (disch := omega) only [hS, g1, pk_ckT, pk_bs, pk_letE, pk_bd2E, pk_bd3E, if_true, if_false, eq_self, not_true_eq_false, not_false_eq_true, true_and, and_true, Nat.not_lt_zero, Nat.zero_le, Nat.reduceEqDiff, Nat.reduceLT, Nat.reduceLeDiff, pk_ck, pk_lit, nI_add, pk_mul, nI_clamp, nI_leI, nI_ltI, nI_eq, pk_div, pk_remE, pk_inE, pk_sub, e1, lN_add]
    rw [if_neg (by omega)]
    refine ih _ ⟨hV.1, fun c hc => (pk_rowL hc).trans (hV.2.1 c hc), fun p hp => ?_⟩
    rw [pk_rL_same]
    by_cases c : p = j
    · rw [if_pos c, c]
      rfl
    · rw [if_neg c]
      exact hV.2.2 p (by omega)
/-- the copy holds k dips at the next inch -/
def pk_Cp (r : Nat) (V : bk_Val) (D : Nat → Nat → Nat) (w : Nat → Nat) (k : Nat) : Prop := ∀ p, p < 336 → bk_rL V (r + 20) p = lN (sp_rt D w k p)
theorem pk_frR.L (e1 : V'.1 = V.1) (e2 : ∀ c, c ≠ r + 20 → c ≠ r + 21 → V'.2 c = V.2 c) : pk_frR r V V' := ⟨fun a _ _ _ _ => by rw [e1], fun k _ _ _ _ => by rw [e1], fun a q1 q2 _ => e2 a q1 q2⟩
theorem pr_copyJ (hN : 1000 ≤ N) (hS : pk_Rf Y r) (hR : pk_JR r V D P T tl st hs img pl fp r0 r1) : ∃ V', q_X12_copiesWeights N Y V r = some V' ∧ pk_frR r V V' ∧ V'.1 = V.1 ∧ pk_Cp r V' D st.2.2.2 0 := by
  obtain ⟨V', e1, e2, e3, e4⟩ := pr_copyW (N := N) hN hS hR.2.2.1.2.2.2
  exact ⟨V', e1, pk_frR.L e2 (fun c q1 _ => e3 c q1), e2, e4⟩
theorem pr_nextJ (hN : 1000 ≤ N) (hS : pk_Rf Y r) (hT : pk_RT V r D P) (hB : pk_DB D P) (hF : ∀ p, w p ≤ 1000000000000000) (hc : pk_Cp r V D w k) : ∃ V', q_X12_nextOf N Y V r (r + 20) = some (nI (sp_next D (sp_rt D w k)), V') ∧ pk_frR r V V' ∧ V'.1 = V.1 ∧ pk_Cp r V' D w k := by
  have b2 := hB.2.2.1
  obtain ⟨V', e1, e2, e3⟩ := pr_nextOf (N := N) (w := sp_rt D w k) hN hS hT.1.1 hT.1.2.1 hB (sp_rt_le b2.2 hF k) hc
  refine ⟨V', e1, pk_frR.L e2 (fun c _ q2 => e3 c q2), e2, fun p hp => ?_⟩
  rw [← hc p hp]
  exact congrFun (e3 (r + 20) (by omega)) p
theorem pr_dipJ (hN : 1000 ≤ N) (hS : pk_Rf Y r) (hT : pk_RT V r D P) (hB : pk_DB D P) (hF : ∀ p, w p ≤ 1000000000000000) (hc : pk_Cp r V D w k) : ∃ V', q_X12_dips N Y V r (r + 20) (nI (sp_next D (sp_rt D w k))) = some V' ∧ pk_frR r V V' ∧ V'.1 = V.1 ∧ pk_Cp r V' D w (k + 1) := by
  have b0 := hB.1
  have b2 := hB.2.2.1
  obtain ⟨V', e1, e2, e3, e4⟩ := pr_dips (N := N) (Y := Y) (V := V) (b := r + 20) (n := 336) (w := sp_rt D w k) (i := sp_next D (sp_rt D w k)) hN hS hT.1.1 hT.1.2.1 hT.1.2.2.1 hB (sp_next_lt hB) (by simp only [hS]) (by omega) (by omega) (sp_rt_le b2.2 hF k) hc
  exact ⟨V', e1, pk_frR.L e2 (fun c q1 _ => e3 c q1), e2, e4⟩
end
