/-! acts of the reference: keeps -/
section
variable {N z t u s tl r a b c d k n j h m l p q0 : Nat} {Y Y' : bk_Lay} {V V' V2 : bk_Val} {x y x1 x2 x3 x4 x5 : Int32} {D : Nat → Nat → Nat} {P : Nat → List Nat} {T : Nat → Nat} {st : pk_St} {hs : List pk_St} {img : Option (pk_St × List pk_St)} {pl : Option (Nat → Nat)} {fp r0 r1 : Int32} {A : pk_A}
theorem pk_rowI (h : b ≠ a) : (bk_wI V a k x).1 b = V.1 b := bk_up2_off _ _ h
theorem pk_rowI2 : (bk_wI V a k x).2 = V.2 := rfl
theorem pk_rowL {w : Int64} (h : b ≠ a) : (bk_wL V a k w).2 b = V.2 b := bk_up2_off _ _ h
theorem pk_rowL2 {w : Int64} : (bk_wL V a k w).1 = V.1 := rfl
theorem pk_slot {w : Int32} (h : k ≠ j) : (bk_wI V a j w).1 a k = V.1 a k := by
  show bk_up2 V.1 a j w a k = _
  unfold bk_up2
  rw [if_neg (fun q => h q.2)]
def pk_frK (r : Nat) (V V' : bk_Val) : Prop := (∀ a, a ≠ r → a ≠ r + 17 → V'.1 a = V.1 a) ∧ (∀ k, k ≠ 61 → V'.1 r k = V.1 r k) ∧ (∀ a, a ≠ r + 16 → V'.2 a = V.2 a)
theorem pk_frK.rf : pk_frK r V V := ⟨fun _ _ _ => rfl, fun _ _ => rfl, fun _ _ => rfl⟩
theorem pk_frK.tr (h : pk_frK r V V') (h2 : pk_frK r V' V2) : pk_frK r V V2 := ⟨fun a x y => (h2.1 a x y).trans (h.1 a x y), fun k x => (h2.2.1 k x).trans (h.2.1 k x), fun a x => (h2.2.2 a x).trans (h.2.2 a x)⟩
theorem pk_frK.wI (h : pk_frK r V V') : pk_frK r V (bk_wI V' (r + 17) k x) := ⟨fun a p q => (pk_rowI q).trans (h.1 a p q), fun k p => by rw [pk_rowI (by omega)]; exact h.2.1 k p, h.2.2⟩
theorem pk_frK.wL {w : Int64} (h : pk_frK r V V') : pk_frK r V (bk_wL V' (r + 16) k w) := ⟨h.1, h.2.1, fun a p => (pk_rowL p).trans (h.2.2 a p)⟩
theorem pk_frK.w61 (h : pk_frK r V V') : pk_frK r V (bk_wI V' r 61 x) := ⟨fun a p q => (pk_rowI p).trans (h.1 a p q), fun k p => (pk_slot p).trans (h.2.1 k p), h.2.2⟩
theorem pk_RH.shift {a b e : Nat} : ∀ {l : List pk_St} {k : Nat}, k + e = l.length → pk_RH V a b l → (∀ j, j < 3 * k → bk_rI V' a j = bk_rI V a (j + 3 * e)) → (∀ j, j < 336 * k → bk_rL V' b j = bk_rL V b (j + 336 * e)) → pk_RH V' a b (l.take k)
  | l, 0, _, _, _, _ => by rw [List.take_zero]; trivial
  | [], k + 1, h, _, _, _ => by rw [List.length_nil] at h; omega
  | g :: l, k + 1, h, ⟨c1, c2, c3, c4, c5⟩, h1, h2 => by
    have hl : l.length = k + e := by
      have : (g :: l).length = l.length + 1 := rfl
      omega
    have ht : (l.take k).length = k := by rw [List.length_take]; omega
    rw [List.take_succ_cons]
    rw [hl] at c1 c2 c3 c4
    refine ⟨?_, ?_, ?_, fun p hp => ?_, pk_RH.shift (by omega) c5 (fun j hj => h1 j (by omega)) (fun j hj => h2 j (by omega))⟩
    · rw [ht, h1 _ (by omega), ← c1]; congr 1; omega
    · rw [ht, h1 _ (by omega), ← c2]; congr 1; omega
    · rw [ht, h1 _ (by omega), ← c3]; congr 1; omega
    · rw [ht, h2 _ (by omega), ← c4 p hp]; congr 1; omega
theorem pk_RH.congr {a b : Nat} : ∀ {l : List pk_St}, pk_RH V a b l → (∀ j, j < 3 * l.length → bk_rI V' a j = bk_rI V a j) → (∀ j, j < 336 * l.length → bk_rL V' b j = bk_rL V b j) → pk_RH V' a b l
  | [], _, _, _ => trivial
  | g :: l, ⟨c1, c2, c3, c4, c5⟩, h1, h2 => by
    have e : (g :: l).length = l.length + 1 := rfl
    exact ⟨(h1 _ (by omega)).trans c1, (h1 _ (by omega)).trans c2, (h1 _ (by omega)).trans c3, fun p hp => (h2 _ (by omega)).trans (c4 p hp), c5.congr (fun j hj => h1 j (by omega)) (fun j hj => h2 j (by omega))⟩
/-- a state is written behind l -/
theorem pr_keeps80 (hN : 20000 ≤ N) (hS : pk_Rf Y r) (hT : pk_RS V r st) {l : List pk_St} (hl : l.length < 40) (h61 : bk_rI V r 61 = nI l.length) (hH : pk_RH V (r + 17) (r + 16) l) : ∃ V', q_X12_keeps_80 N Y V r = some V' ∧ bk_rI V' r 61 = nI (l.length + 1) ∧ pk_RH V' (r + 17) (r + 16) (st :: l) ∧ pk_frK r V V' := by
  obtain ⟨t1, t2, t3, t4⟩ := hT
  generalize hn : l.length = n at *
  have L := loop_i (σ := bk_Val) (fun m i W => ∃ V', q_X12_keeps_131 N Y m W r (nI i) = some V' ∧ bk_rI V' r 61 = nI (n + 1) ∧ pk_RH V' (r + 17) (r + 16) (st :: l) ∧ pk_frK r V V')
    (fun i W => pk_frK r V W ∧ bk_rI W r 61 = nI n ∧ (bk_rI W (r + 17) (3 * n) = nI st.1 ∧ bk_rI W (r + 17) (3 * n + 1) = nI st.2.1 ∧ bk_rI W (r + 17) (3 * n + 2) = nI st.2.2.1 ∧ (∀ j, j < 3 * n → bk_rI W (r + 17) j = bk_rI V (r + 17) j)) ∧ (∀ j, bk_rL W (r + 16) j = if 336 * n ≤ j ∧ j < 336 * n + i then lN (st.2.2.2 (j - 336 * n)) else bk_rL V (r + 16) j)) 336 ?_ ?_ N 0 (bk_wI (bk_wI (bk_wI V (r + 17) (3 * n) (nI st.1)) (r + 17) (3 * n + 1) (nI st.2.1)) (r + 17) (3 * n + 2) (nI st.2.2.1)) (by omega) (by omega) ?_
  · obtain ⟨V', e1, e2⟩ := L
    refine ⟨V', ?_, e2⟩
    simp (disch := omega) only [q_X12_keeps_80, hS, pk_ckT, pk_bs, pk_letE, pk_bd2E, pk_bd3E, if_true, if_false, eq_self, not_true_eq_false, not_false_eq_true, true_and, and_true, Nat.not_lt_zero, Nat.zero_le, Nat.reduceEqDiff, Nat.reduceLT, Nat.reduceLeDiff, pk_ck, pk_lit, nI_add, pk_mul, nI_clamp, nI_leI, nI_ltI, nI_eq, pk_div, pk_remE, pk_inE, pk_sub, h61, t1, t2, t3, pk_rI_same, pk_rI_ne, pk_rI_wL, pk_rL_wI, pk_rL_same, pk_rL_ne]
    exact e1
  · intro m W hW
    obtain ⟨w1, w2, ⟨w3, w4, w5, w6⟩, w7⟩ := hW
    refine ⟨bk_wI W r 61 (nI (n + 1)), ?_, ?_, ?_, w1.w61⟩
    · simp (disch := omega) only [q_X12_keeps_131, hS, pk_ckT, pk_bs, pk_letE, pk_bd2E, pk_bd3E, if_true, if_false, eq_self, not_true_eq_false, not_false_eq_true, true_and, and_true, Nat.not_lt_zero, Nat.zero_le, Nat.reduceEqDiff, Nat.reduceLT, Nat.reduceLeDiff, pk_ck, pk_lit, nI_add, pk_mul, nI_clamp, nI_leI, nI_ltI, nI_eq, pk_div, pk_remE, pk_inE, pk_sub, w2, Nat.le_refl]
    · simp only [pk_rI_same, if_true]
    · have e1 : ∀ k, bk_rI (bk_wI W r 61 (nI (n + 1))) (r + 17) k = bk_rI W (r + 17) k := fun k => pk_rI_ne (by omega)
      refine ⟨?_, ?_, ?_, fun p hp => ?_, ?_⟩
      · rw [e1, hn]; exact w3
      · rw [e1, hn]; exact w4
      · rw [e1, hn]; exact w5
      · rw [pk_rL_wI, hn, w7, if_pos (by omega), Nat.add_sub_cancel_left]
      · refine hH.congr (fun j hj => ?_) (fun j hj => ?_)
        · rw [e1]; exact w6 j (by omega)
        · rw [pk_rL_wI, w7, if_neg (by omega)]
  · intro m i W hi hW ih
    obtain ⟨w1, w2, w3, w7⟩ := hW
    have e15 : bk_rL W (r + 15) i = lN (st.2.2.2 i) := by
      rw [← t4 i hi]
      exact congrFun (w1.2.2 _ (by omega)) i
    rw [q_X12_keeps_131]
    simp (disch := omega) only [hS, pk_ckT, pk_bs, pk_letE, pk_bd2E, pk_bd3E, if_true, if_false, eq_self, not_true_eq_false, not_false_eq_true, true_and, and_true, Nat.not_lt_zero, Nat.zero_le, Nat.reduceEqDiff, Nat.reduceLT, Nat.reduceLeDiff, pk_ck, pk_lit, nI_add, pk_mul, nI_clamp, nI_leI, nI_ltI, nI_eq, pk_div, pk_remE, pk_inE, pk_sub, w2, e15]
    rw [if_neg (by omega)]
    refine ih _ ⟨w1.wL, w2, w3, fun j => ?_⟩
    rw [pk_rL_same]
    by_cases c : j = 336 * n + i
    · rw [if_pos c, if_pos (by omega), c, Nat.add_sub_cancel_left]
    · rw [if_neg c, w7]
      by_cases c2 : 336 * n ≤ j ∧ j < 336 * n + i
      · rw [if_pos c2, if_pos (by omega)]
      · rw [if_neg c2, if_neg (by omega)]
  · refine ⟨pk_frK.rf.wI.wI.wI, ?_, ⟨?_, ?_, ?_, fun j hj => ?_⟩, fun j => ?_⟩
    · simp (disch := omega) only [pk_rI_same, pk_rI_ne, pk_rI_wL, pk_rL_wI, pk_rL_same, pk_rL_ne, h61]
    · simp (disch := omega) only [pk_rI_same]
      rw [if_neg (by omega), if_neg (by omega), if_true]
    · simp (disch := omega) only [pk_rI_same]
      rw [if_neg (by omega), if_true]
    · simp only [pk_rI_same, if_true]
    · simp only [pk_rI_same]
      rw [if_neg (by omega), if_neg (by omega), if_neg (by omega)]
    · rw [if_neg (by omega)]
      rfl
theorem pr_keeps (hN : 20000 ≤ N) (hS : pk_Rf Y r) (hT : pk_RS V r st) (hl : hs.length ≤ 40) (h61 : bk_rI V r 61 = nI hs.length) (hH : pk_RH V (r + 17) (r + 16) hs) : ∃ V', q_X12_keeps N Y V r = some V' ∧ bk_rI V' r 61 = nI ((st :: hs).take 40).length ∧ pk_RH V' (r + 17) (r + 16) ((st :: hs).take 40) ∧ pk_frK r V V' := by
  by_cases c : hs.length = 40
  · have L2 : ∀ W, pk_frK r V W → bk_rI W r 61 = nI 40 → (∀ j, bk_rI W (r + 17) j = if j < 117 then bk_rI V (r + 17) (j + 3) else bk_rI V (r + 17) j) → (∀ j, bk_rL W (r + 16) j = bk_rL V (r + 16) j) → ∃ V', q_X12_keeps_41 N Y N W r (nI 336) = some V' ∧ bk_rI V' r 61 = nI 40 ∧ pk_RH V' (r + 17) (r + 16) (st :: hs.take 39) ∧ pk_frK r V V' := by
      intro W0 g1 g2 g3 g4
      refine loop_i (σ := bk_Val) (fun m i W => ∃ V', q_X12_keeps_41 N Y m W r (nI i) = some V' ∧ bk_rI V' r 61 = nI 40 ∧ pk_RH V' (r + 17) (r + 16) (st :: hs.take 39) ∧ pk_frK r V V')
        (fun i W => pk_frK r V W ∧ bk_rI W r 61 = nI 40 ∧ W.1 (r + 17) = W0.1 (r + 17) ∧ 336 ≤ i ∧ (∀ j, bk_rL W (r + 16) j = if j + 336 < i then bk_rL V (r + 16) (j + 336) else bk_rL V (r + 16) j)) 13440 ?_ ?_ N 336 W0 (by omega) (by omega) ⟨g1, g2, rfl, Nat.le_refl _, fun j => by rw [if_neg (by omega)]; exact g4 j⟩
      · intro m W hW
        obtain ⟨w1, w2, w3, w4, w5⟩ := hW
        have ht : (hs.take 39).length = 39 := by rw [List.length_take]; omega
        have hT2 : pk_RS (bk_wI W r 61 (nI 39)) r st := by
          obtain ⟨t1, t2, t3, t4⟩ := hT
          exact ⟨(w1.w61.2.1 58 (by omega)).trans t1, (w1.w61.2.1 59 (by omega)).trans t2, (w1.w61.2.1 60 (by omega)).trans t3, fun p hp => (congrFun (w1.2.2 (r + 15) (by omega)) p).trans (t4 p hp)⟩
        have hH2 : pk_RH (bk_wI W r 61 (nI 39)) (r + 17) (r + 16) (hs.take 39) := by
          refine hH.shift (e := 1) (by omega) (fun j hj => ?_) (fun j hj => ?_)
          · rw [pk_rI_ne (by omega)]
            show W.1 (r + 17) j = _
            rw [w3]
            show bk_rI W0 (r + 17) j = _
            rw [g3, if_pos (by omega)]
          · rw [pk_rL_wI, w5, if_pos (by omega)]
        obtain ⟨V', e1, e2, e3, e4⟩ := pr_keeps80 (N := N) hN hS hT2 (l := hs.take 39) (by omega) (by rw [ht]; simp only [pk_rI_same, if_true]) hH2
        rw [ht] at e2
        refine ⟨V', ?_, e2, e3, w1.w61.tr e4⟩
        simp (disch := omega) only [q_X12_keeps_41, hS, pk_ckT, pk_bs, pk_letE, pk_bd2E, pk_bd3E, if_true, if_false, eq_self, not_true_eq_false, not_false_eq_true, true_and, and_true, Nat.not_lt_zero, Nat.zero_le, Nat.reduceEqDiff, Nat.reduceLT, Nat.reduceLeDiff, pk_ck, pk_lit, nI_add, pk_mul, nI_clamp, nI_leI, nI_ltI, nI_eq, pk_div, pk_remE, pk_inE, pk_sub, w2, Nat.le_refl]
        exact e1
      · intro m i W hi hW ih
        obtain ⟨w1, w2, w3, w4, w5⟩ := hW
        rw [q_X12_keeps_41]
        have e15 : bk_rL W (r + 16) i = bk_rL V (r + 16) i := by rw [w5, if_neg (by omega)]
        simp (disch := omega) only [hS, pk_ckT, pk_bs, pk_letE, pk_bd2E, pk_bd3E, if_true, if_false, eq_self, not_true_eq_false, not_false_eq_true, true_and, and_true, Nat.not_lt_zero, Nat.zero_le, Nat.reduceEqDiff, Nat.reduceLT, Nat.reduceLeDiff, pk_ck, pk_lit, nI_add, pk_mul, nI_clamp, nI_leI, nI_ltI, nI_eq, pk_div, pk_remE, pk_inE, pk_sub, e15]
        rw [if_neg (by omega)]
        refine ih _ ⟨w1.wL, w2, w3, by omega, fun j => ?_⟩
        rw [pk_rL_same]
        by_cases c : j = i - 336
        · rw [if_pos c, if_pos (by omega), c]
          congr 1
          omega
        · rw [if_neg c, w5]
          by_cases c2 : j + 336 < i
          · rw [if_pos c2, if_pos (by omega)]
          · rw [if_neg c2, if_neg (by omega)]
    have L1 : ∃ V', q_X12_keeps_11 N Y N V r (nI 3) = some V' ∧ bk_rI V' r 61 = nI 40 ∧ pk_RH V' (r + 17) (r + 16) (st :: hs.take 39) ∧ pk_frK r V V' := by
      refine loop_i (σ := bk_Val) (fun m i W => ∃ V', q_X12_keeps_11 N Y m W r (nI i) = some V' ∧ bk_rI V' r 61 = nI 40 ∧ pk_RH V' (r + 17) (r + 16) (st :: hs.take 39) ∧ pk_frK r V V')
        (fun i W => pk_frK r V W ∧ bk_rI W r 61 = nI 40 ∧ W.2 = V.2 ∧ 3 ≤ i ∧ (∀ j, bk_rI W (r + 17) j = if j + 3 < i then bk_rI V (r + 17) (j + 3) else bk_rI V (r + 17) j)) 120 ?_ ?_ N 3 V (by omega) (by omega) ⟨pk_frK.rf, by rw [h61, c], rfl, Nat.le_refl _, fun j => by rw [if_neg (by omega)]⟩
      · intro m W hW
        obtain ⟨w1, w2, w3, w4, w5⟩ := hW
        rw [q_X12_keeps_11]
        simp (disch := omega) only [pk_ckT, pk_bs, pk_letE, pk_bd2E, pk_bd3E, if_true, if_false, eq_self, not_true_eq_false, not_false_eq_true, true_and, and_true, Nat.not_lt_zero, Nat.zero_le, Nat.reduceEqDiff, Nat.reduceLT, Nat.reduceLeDiff, pk_ck, pk_lit, nI_add, pk_mul, nI_clamp, nI_leI, nI_ltI, nI_eq, pk_div, pk_remE, pk_inE, pk_sub, Nat.le_refl]
        refine L2 W w1 w2 (fun j => ?_) (fun j => by unfold bk_rL; rw [w3])
        rw [w5]
        by_cases c : j < 117
        · rw [if_pos c, if_pos (by omega)]
        · rw [if_neg c, if_neg (by omega)]
      · intro m i W hi hW ih
        obtain ⟨w1, w2, w3, w4, w5⟩ := hW
        rw [q_X12_keeps_11]
        have e15 : bk_rI W (r + 17) i = bk_rI V (r + 17) i := by rw [w5, if_neg (by omega)]
        simp (disch := omega) only [hS, pk_ckT, pk_bs, pk_letE, pk_bd2E, pk_bd3E, if_true, if_false, eq_self, not_true_eq_false, not_false_eq_true, true_and, and_true, Nat.not_lt_zero, Nat.zero_le, Nat.reduceEqDiff, Nat.reduceLT, Nat.reduceLeDiff, pk_ck, pk_lit, nI_add, pk_mul, nI_clamp, nI_leI, nI_ltI, nI_eq, pk_div, pk_remE, pk_inE, pk_sub, e15]
        rw [if_neg (by omega)]
        refine ih _ ⟨w1.wI, by rw [pk_rI_ne (by omega)]; exact w2, w3, by omega, fun j => ?_⟩
        rw [pk_rI_same]
        by_cases c : j = i - 3
        · rw [if_pos c, if_pos (by omega), c]
          congr 1
          omega
        · rw [if_neg c, w5]
          by_cases c2 : j + 3 < i
          · rw [if_pos c2, if_pos (by omega)]
          · rw [if_neg c2, if_neg (by omega)]
    obtain ⟨V', e1, e2, e3, e4⟩ := L1
    refine ⟨V', ?_, ?_, e3, e4⟩
    · simp (disch := omega) only [q_X12_keeps, hS, pk_ckT, pk_bs, pk_letE, pk_bd2E, pk_bd3E, if_true, if_false, eq_self, not_true_eq_false, not_false_eq_true, true_and, and_true, Nat.not_lt_zero, Nat.zero_le, Nat.reduceEqDiff, Nat.reduceLT, Nat.reduceLeDiff, pk_ck, h61, c, pk_lit, nI_eq]
      exact e1
    · rw [e2, List.length_take]
      have : (st :: hs).length = hs.length + 1 := rfl
      rw [Nat.min_eq_left (by omega)]
  · obtain ⟨V', e1, e2, e3, e4⟩ := pr_keeps80 (N := N) hN hS hT (l := hs) (by omega) h61 hH
    have ht : (st :: hs).take 40 = st :: hs := List.take_of_length_le (by have : (st :: hs).length = hs.length + 1 := rfl; omega)
    refine ⟨V', ?_, by rw [ht]; exact e2, by rw [ht]; exact e3, e4⟩
    simp (disch := omega) only [q_X12_keeps, hS, pk_ckT, pk_bs, pk_letE, pk_bd2E, pk_bd3E, if_true, if_false, eq_self, not_true_eq_false, not_false_eq_true, true_and, and_true, Nat.not_lt_zero, Nat.zero_le, Nat.reduceEqDiff, Nat.reduceLT, Nat.reduceLeDiff, pk_ck, h61, pk_lit, nI_eq, if_neg c]
    exact e1
end
