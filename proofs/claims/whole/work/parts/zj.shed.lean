/-! shed -/
section
variable {N z t u s tl r a b c d k n j h m l p q q0 md wa s' i f gg v S L g lo hi w e : Nat} {Y Y1 Y2 Y' : bk_Lay} {V V' V1 V2 V8 : bk_Val} {x y x1 x2 x3 x4 x5 ee : Int32} {T T' R G In : Nat → Nat} {D D' : Nat → Nat → Nat} {P P' : Nat → List Nat} {K : List Nat} {o : pk_O} {st st' : pk_St} {hs hs' : List pk_St} {img img' : Option (pk_St × List pk_St)} {pl : Option (Nat → Nat)} {fp r0 r1 : Int32}
/-- the class's text is told, from the call on -/
theorem pc_tellT (hN : 1000 ≤ N) (hF : pk_Fix z Y) (hu : u = z + 10 ∨ u = z + 32) (hx : pk_txC z V T L) : pk_cL N z u (bk_wR Y (z + 54) 1 (some u)) ∧ ∃ V', q_X8_tell N Y V (z + 54) (nI L) u = pk_tR N (bk_wR Y (z + 54) 1 (some u)) z V' ∧ pk_fW z u V V' ∧ pk_LC z u V' T L 0 tq_D0 (fun _ => []) (fun _ => false) := by
  have hF2 : pk_Fix z (bk_wR Y (z + 54) 1 (some u)) := hF.wR (Or.inr (Or.inr (Or.inl ⟨rfl, by omega⟩)))
  have hM2 := hF2.mn
  have hS2 := hF2.sd hu
  have hi : bk_rR (bk_wR Y (z + 54) 1 (some u)) (z + 54) 1 = some u := by rw [pk_rR_wR, if_pos ⟨rfl, rfl⟩]
  refine ⟨⟨hN, hM2, hS2, hi, by omega, by omega⟩, ?_⟩
  obtain ⟨V1, a1, a2, a3, a4⟩ := pc_clear (N := N) (V := V) hS2
  have r1 : ∀ x j, (x ≤ u ∨ u + 20 < x) → bk_rI V1 x j = bk_rI V x j := fun x j q => congrFun (a3 x q) j
  generalize hW : bk_wI (bk_wI (bk_wI V1 (z + 54) 2 (nI 0)) (z + 54) 4 (nI 0)) (z + 54) 5 (-nI 1) = W
  have w0 : ∀ x, x ≠ z + 54 → W.1 x = V1.1 x := fun x q => by rw [← hW, pk_rowI q, pk_rowI q, pk_rowI q]
  have wx : pk_txC z W T L := ⟨fun j hj => (congrFun (w0 (z + 2) (by omega)) j).trans ((r1 _ _ (by omega)).trans (hx.1 j hj)), hx.2⟩
  have w4 : bk_rI W (z + 54) 4 = nI 0 := by rw [← hW, pk_rI_same, if_neg (by omega), pk_rI_same, if_pos rfl]
  have w2 : bk_rI W (z + 54) 2 = nI 0 := by rw [← hW, pk_rI_same, if_neg (by omega), pk_rI_same, if_neg (by omega), pk_rI_same, if_pos rfl]
  obtain ⟨V2, b1, b2, b3⟩ := pc_begin (N := N) hN hM2 wx w4
  refine ⟨V2, ?_, ⟨?_, fun x q1 q2 q3 => ?_⟩, b3, a4.of (fun a q1 q2 _ => ?_), 0, ?_, by decide, fun b _ => ?_⟩
  · unfold q_X8_tell pk_tR
    rw [pk_ck hF.mn.2.2.2.2.2.2.2.2.2.2.2.2.2.2.2.2.2.2.2.2.1]
    simp only [hM2, hS2, hi, pk_ckT, pk_bs, pk_letE, pk_bd2E, pk_bd3E, if_true, if_false, eq_self, not_true_eq_false, not_false_eq_true, true_and, and_true, Nat.not_lt_zero, Nat.zero_le, Nat.reduceEqDiff, Nat.reduceLT, Nat.reduceLeDiff, pk_ck, pk_lit, a1, hW, b1]
  · rw [b2.1, ← hW]
    exact a2
  · rw [b2.2 x q2, w0 x q1, a3 x q3]
  · rw [b2.2 a (by omega), w0 a (by omega)]
  · rw [show bk_rI V2 (z + 54) 2 = bk_rI W (z + 54) 2 from congrFun (b2.2 (z + 54) (by omega)) 2, w2]
  · unfold sp_bit
    rw [Nat.zero_div]
    exact ⟨fun g => absurd g (by decide), fun g => Bool.noConfusion g⟩
/-- the reference's text, from the call on -/
theorem pr_shedT (hN : 1000 ≤ N) (hS : pk_Rf Y r) (ht : bk_rI V r 20 = nI tl) (hx : ∀ j, j < L → bk_rI V (r + 6) j = nI (T j)) (hT : ∀ j, T j < 256) (hl : L ≤ tl) (h7 : tl ≤ 700) : ∃ V', q_X12_shed N Y V r (nI L) = pk_sR N Y r V' (nI L) ∧ pk_LR r V' T L 0 tq_D0 (fun _ => []) (fun _ => false) ∧ (∀ a, a ≠ r → (a < r + 8 ∨ r + 14 < a) → V'.1 a = V.1 a) ∧ (∀ k, (0 < k ∧ k < 20) ∨ k = 23 ∨ 50 < k → bk_rI V' r k = bk_rI V r k) ∧ bk_rI V' r 0 = nI 0 ∧ bk_rI V' r 20 = nI 0 ∧ bk_rI V' r 22 = -nI 1 ∧ (∀ a, a ≠ r → V'.2 a = V.2 a) ∧ (∀ k, k ≠ 31 → k ≠ 49 → V'.2 r k = V.2 r k) := by
  generalize hW : bk_wI (bk_wI (bk_wI (bk_wI (bk_wI (bk_wI V r 0 (nI 0)) r 20 (nI 0)) r 22 (-nI 1)) r 21 (nI 0)) r 24 (nI L)) r 25 (nI 0) = W
  have sl : ∀ k, (0 < k ∧ k < 20) ∨ k = 23 ∨ 25 < k → bk_rI W r k = bk_rI V r k := fun k hk => by
    rw [← hW, pk_rI_same, if_neg (by omega), pk_rI_same, if_neg (by omega), pk_rI_same, if_neg (by omega), pk_rI_same, if_neg (by omega), pk_rI_same, if_neg (by omega), pk_rI_same, if_neg (by omega)]
  have s0 : bk_rI W r 0 = nI 0 ∧ bk_rI W r 20 = nI 0 ∧ bk_rI W r 22 = -nI 1 ∧ bk_rI W r 21 = nI 0 ∧ bk_rI W r 24 = nI L ∧ bk_rI W r 25 = nI 0 := by
    rw [← hW]
    simp (disch := omega) only [pk_rI_same, pk_rI_ne, pk_rI_wL, pk_rL_wI, pk_rL_same, pk_rL_ne, pk_ckT, pk_bs, pk_letE, pk_bd2E, pk_bd3E, if_true, if_false, eq_self, not_true_eq_false, not_false_eq_true, true_and, and_true, Nat.not_lt_zero, Nat.zero_le, Nat.reduceEqDiff, Nat.reduceLT, Nat.reduceLeDiff, pk_ck]
  have ro : ∀ a, a ≠ r → W.1 a = V.1 a := fun a ha => by rw [← hW, pk_rowI ha, pk_rowI ha, pk_rowI ha, pk_rowI ha, pk_rowI ha, pk_rowI ha]
  have wl : W.2 = V.2 := by rw [← hW]; rfl
  obtain ⟨V1, a1, a2, a3, a4, a5, a6⟩ := pr_asW (N := N) (V := W) hS
  have tx : pk_txR r V1 T L := ⟨fun j hj => (congrFun (a2.1 (r + 6) (by omega) (by omega)) j).trans ((congrFun (ro (r + 6) (by omega)) j).trans (hx j hj)), hT, by omega, (a3 24 (by omega)).trans s0.2.2.2.2.1⟩
  obtain ⟨V2, b1, b2, b3⟩ := pr_goes (N := N) (p := 0) hN hS tx (by omega) ((a3 25 (by omega)).trans s0.2.2.2.2.2)
  have hp : pk_PR r V2 T L 0 := ⟨tx.fr b2, b3, by omega, ⟨(b2.2.1 21 (by omega)).trans ((a3 21 (by omega)).trans s0.2.2.2.1), (b2.2.1 22 (by omega)).trans ((a3 22 (by omega)).trans s0.2.2.1)⟩⟩
  have fr : pk_frW r W V2 := a2.tr b2.toW
  refine ⟨V2, ?_, ⟨hp, a4.of (fun k q1 q2 => b2.2.1 k (by omega)) (fun a q1 q2 => b2.1 a (by omega)), ⟨[], a5.of (fun k q1 q2 _ => b2.2.1 k (by omega)) (b2.1 _ (by omega)), by rw [List.length_nil]; omega⟩, a6.of (b2.2.1 45 (by omega)) (b2.2.2.2 49 (by omega))⟩, fun a q1 q2 => ?_, fun k q => ?_, ?_, ?_, ?_, fun a q => ?_, fun k q1 q2 => ?_⟩
  · have e0 : ¬ nI L < nI 0 := by rw [nI_ltI (by omega) (by omega)]; omega
    have e1 : ¬ nI tl < nI L := by rw [nI_ltI (by omega) (by omega)]; omega
    have e20 : bk_rI (bk_wI V r 0 (nI 0)) r 20 = nI tl := by rw [pk_rI_same, if_neg (by omega)]; exact ht
    have e9 : q_X12_right N Y (bk_wI V r 0 (nI 0)) r (nI 1) (nI 1) = some (nI 1, bk_wI V r 0 (nI 0)) := pr_right (c := True) hS pk_w0 (Or.inl rfl)
    unfold q_X12_shed q_X12_shed_23 pk_sR
    simp only [hS, pk_ckT, pk_bs, pk_letE, pk_bd2E, pk_bd3E, if_true, if_false, eq_self, not_true_eq_false, not_false_eq_true, true_and, and_true, Nat.not_lt_zero, Nat.zero_le, Nat.reduceEqDiff, Nat.reduceLT, Nat.reduceLeDiff, pk_ck, pk_lit, e20, e0, e1, e9, show ¬ nI 1 = nI 0 from by decide]
    rw [hW, a1, pk_bs, b1, pk_bs]
  · rw [fr.1 a q1 q2, ro a q1]
  · rw [show bk_rI V2 r k = bk_rI W r k from fr.2.1 k (by omega)]
    exact sl k (by omega)
  · rw [show bk_rI V2 r 0 = bk_rI W r 0 from fr.2.1 0 (by omega)]
    exact s0.1
  · rw [show bk_rI V2 r 20 = bk_rI W r 20 from fr.2.1 20 (by omega)]
    exact s0.2.1
  · rw [show bk_rI V2 r 22 = bk_rI V1 r 22 from b2.2.1 22 (by omega), a3 22 (by omega)]
    exact s0.2.2.1
  · rw [fr.2.2.1 a q, wl]
  · rw [fr.2.2.2 k q1 q2, wl]
end
