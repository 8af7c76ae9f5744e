/-! many looks at one place -/
section
variable {N z t u s tl r a b c d k n j h m l p q0 md wa s' i f e gg v : Nat} {Y Y' : bk_Lay} {V V' V2 W : bk_Val} {x y x1 x2 x3 x4 x5 : Int32} {w1 w2 : Int64} {D : Nat → Nat → Nat} {P : Nat → List Nat} {T T' w R : Nat → Nat} {st st' g : pk_St} {hs hs' : List pk_St} {img img' : Option (pk_St × List pk_St)} {pl : Option (Nat → Nat)} {fp r0 r1 : Int32} {A B : pk_A}
def sp_dk (D : Nat → Nat → Nat) (w : Nat → Nat) (i : Nat) : Nat → Nat → Nat
  | 0 => w
  | k + 1 => sp_dip D (sp_dk D w i k) i
theorem sp_dk_e : ∀ k, sp_dk D w i k p = if p < 4 * D 0 0 ∧ sp_look D (p / 4) i then sp_les (D 0 2) (w p) k else w p
  | 0 => by
    show w p = if _ then w p else w p
    rw [ite_self]
  | k + 1 => by
    show sp_dip D (sp_dk D w i k) i p = _
    unfold sp_dip
    rw [sp_dk_e k]
    by_cases c : p < 4 * D 0 0 ∧ sp_look D (p / 4) i
    · rw [if_pos c, if_pos c, if_pos c]
      rfl
    · rw [if_neg c, if_neg c, if_neg c]
theorem sp_dk_le (hm : D 0 2 ≤ 100) (hF : ∀ p, w p ≤ m) (k p : Nat) : sp_dk D w i k p ≤ m := by
  rw [sp_dk_e]
  by_cases c : p < 4 * D 0 0 ∧ sp_look D (p / 4) i
  · rw [if_pos c]
    exact Nat.le_trans (sp_les_le hm k) (hF p)
  · rw [if_neg c]
    exact hF p
theorem pr_dipk (hN : 1000 ≤ N) (hS : pk_Rf Y r) (h1 : bk_rI V r 1 = nI (D 0 0)) (h2 : bk_rI V r 2 = nI (D 0 1)) (h3 : bk_rI V r 3 = nI (D 0 2)) (hB : pk_DB D P) (hi : i < D 0 0) (hk : k ≤ 600) (hF : ∀ p, w p ≤ 1000000000000000) (hw : ∀ p, p < 336 → bk_rL V (r + 15) p = lN (w p)) : ∃ V', q_X12_dip_35 N Y N V r (nI i) (nI k) 0 = some (nI (sp_best (sp_dk D w i k) (4 * D 0 0)), V') ∧ V'.1 = V.1 ∧ (∀ c, c ≠ r + 15 → V'.2 c = V.2 c) ∧ ∀ p, p < 336 → bk_rL V' (r + 15) p = lN (sp_dk D w i k p) := by
  have b0 := hB.1
  have b2 := hB.2.2.1
  have hG := sp_dk_le (D := D) (w := w) (i := i) (m := 1000000000000000) (by omega) hF
  refine loop_i (σ := bk_Val) (fun fu j V1 => ∃ V', q_X12_dip_35 N Y fu V1 r (nI i) (nI k) (nI j) = some (nI (sp_best (sp_dk D w i k) (4 * D 0 0)), V') ∧ V'.1 = V.1 ∧ (∀ c, c ≠ r + 15 → V'.2 c = V.2 c) ∧ ∀ p, p < 336 → bk_rL V' (r + 15) p = lN (sp_dk D w i k p)) (fun j V1 => V1.1 = V.1 ∧ (∀ c, c ≠ r + 15 → V1.2 c = V.2 c) ∧ ∀ p, p < 336 → bk_rL V1 (r + 15) p = lN (sp_dk D w i j p)) k ?_ ?_ N 0 V (by omega) (by omega) ⟨rfl, fun _ _ => rfl, hw⟩
  · intro fu V1 hV
    have g1 : bk_rI V1 r 1 = nI (D 0 0) := by rw [← h1]; unfold bk_rI; rw [hV.1]
    refine ⟨V1, ?_, hV⟩
    rw [q_X12_dip_35, if_pos (nI_le (by omega) (by omega)), pk_ck hS.1, pr_likeliest (w := sp_dk D w i k) hN hS g1 b0 (fun p => Nat.le_trans (hG k p) (by omega)) (fun p hp => hV.2.2 p (by omega)), pk_bs]
  · intro fu j V1 hj hV ih
    have g1 : bk_rI V1 r 1 = nI (D 0 0) := by rw [← h1]; unfold bk_rI; rw [hV.1]
    have g2 : bk_rI V1 r 2 = nI (D 0 1) := by rw [← h2]; unfold bk_rI; rw [hV.1]
    have g3 : bk_rI V1 r 3 = nI (D 0 2) := by rw [← h3]; unfold bk_rI; rw [hV.1]
    obtain ⟨V3, q1, q2, q3, q4⟩ := pr_dips (N := N) (Y := Y) (V := V1) (b := r + 15) (n := 336) (w := sp_dk D w i j) hN hS g1 g2 g3 hB hi (by simp only [hS]) (by omega) (by omega) (hG j) hV.2.2
    have ih' := ih V3 ⟨q2.trans hV.1, fun c hc => (q3 c hc).trans (hV.2.1 c hc), q4⟩
    rw [q_X12_dip_35]
    simp (disch := omega) only [hS, pk_ckT, pk_bs, pk_letE, pk_bd2E, pk_bd3E, if_true, if_false, eq_self, not_true_eq_false, not_false_eq_true, true_and, and_true, Nat.not_lt_zero, Nat.zero_le, Nat.reduceEqDiff, Nat.reduceLT, Nat.reduceLeDiff, pk_ck, pk_lit, nI_leI, q1, nI_add]
    rw [if_neg (by omega)]
    exact ih'
end
