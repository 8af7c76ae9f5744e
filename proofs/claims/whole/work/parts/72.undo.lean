/-! undo, image, restore -/
section
variable {N z t u s tl r a b c d k n j h m l p q0 md wa s' : Nat} {Y Y' : bk_Lay} {V V' V2 W : bk_Val} {x y x1 x2 x3 x4 x5 : Int32} {D : Nat → Nat → Nat} {P : Nat → List Nat} {T w : Nat → Nat} {st st' g : pk_St} {hs hs' : List pk_St} {img img' : Option (pk_St × List pk_St)} {pl : Option (Nat → Nat)} {fp r0 r1 : Int32} {A B : pk_A}
theorem pr_copiesL (hN : 20000 ≤ N) (h1 : bk_sh Y a = (3, n)) (h2 : bk_sh Y b = (3, n)) (hn : n ≤ 13440) (hab : a ≠ b) : ∃ V', q_X12_copiesLong N Y V a b = some V' ∧ V'.1 = V.1 ∧ (∀ c, c ≠ b → V'.2 c = V.2 c) ∧ ∀ j, j < n → bk_rL V' b j = bk_rL V a j := by
  refine loop_i (σ := bk_Val) (fun m i W => ∃ V', q_X12_copiesLong_2 N Y m W a b (nI i) = some V' ∧ V'.1 = V.1 ∧ (∀ c, c ≠ b → V'.2 c = V.2 c) ∧ ∀ j, j < n → bk_rL V' b j = bk_rL V a j)
    (fun i W => W.1 = V.1 ∧ (∀ c, c ≠ b → W.2 c = V.2 c) ∧ ∀ j, j < i → bk_rL W b j = bk_rL V a j) n ?_ ?_ N 0 V (by omega) (by omega) ⟨rfl, fun _ _ => rfl, fun j hj => by omega⟩
  · intro m W hW
    refine ⟨W, ?_, hW⟩
    simp (disch := omega) only [q_X12_copiesLong_2, h1, pk_ckT, pk_bs, pk_letE, pk_bd2E, pk_bd3E, if_true, if_false, eq_self, not_true_eq_false, not_false_eq_true, true_and, and_true, Nat.not_lt_zero, Nat.zero_le, Nat.reduceEqDiff, Nat.reduceLT, Nat.reduceLeDiff, pk_ck, nI_leI, Nat.le_refl]
  · intro m i W hi hW ih
    obtain ⟨w1, w2, w3⟩ := hW
    rw [q_X12_copiesLong_2]
    simp (disch := omega) only [h1, h2, pk_ckT, pk_bs, pk_letE, pk_bd2E, pk_bd3E, if_true, if_false, eq_self, not_true_eq_false, not_false_eq_true, true_and, and_true, Nat.not_lt_zero, Nat.zero_le, Nat.reduceEqDiff, Nat.reduceLT, Nat.reduceLeDiff, pk_ck, pk_lit, nI_add, pk_mul, nI_clamp, nI_leI, nI_ltI, nI_eq, pk_div, pk_remE, pk_inE, pk_sub]
    rw [if_neg (by omega)]
    refine ih _ ⟨w1, fun c hc => (pk_rowL hc).trans (w2 c hc), fun j hj => ?_⟩
    rw [pk_rL_same]
    by_cases c : j = i
    · rw [if_pos c, c]; exact congrFun (w2 a hab) i
    · rw [if_neg c]; exact w3 j (by omega)
theorem pr_copiesI (hN : 20000 ≤ N) (h1 : bk_sh Y a = (2, n)) (h2 : bk_sh Y b = (2, n)) (hn : n ≤ 1900) (hab : a ≠ b) : ∃ V', q_X12_copies N Y V r a b = some V' ∧ V'.2 = V.2 ∧ (∀ c, c ≠ b → V'.1 c = V.1 c) ∧ ∀ j, j < n → bk_rI V' b j = bk_rI V a j := by
  refine loop_i (σ := bk_Val) (fun m i W => ∃ V', q_X12_copies_2 N Y m W a b (nI i) = some V' ∧ V'.2 = V.2 ∧ (∀ c, c ≠ b → V'.1 c = V.1 c) ∧ ∀ j, j < n → bk_rI V' b j = bk_rI V a j)
    (fun i W => W.2 = V.2 ∧ (∀ c, c ≠ b → W.1 c = V.1 c) ∧ ∀ j, j < i → bk_rI W b j = bk_rI V a j) n ?_ ?_ N 0 V (by omega) (by omega) ⟨rfl, fun _ _ => rfl, fun j hj => by omega⟩
  · intro m W hW
    refine ⟨W, ?_, hW⟩
    simp (disch := omega) only [q_X12_copies_2, h1, pk_ckT, pk_bs, pk_letE, pk_bd2E, pk_bd3E, if_true, if_false, eq_self, not_true_eq_false, not_false_eq_true, true_and, and_true, Nat.not_lt_zero, Nat.zero_le, Nat.reduceEqDiff, Nat.reduceLT, Nat.reduceLeDiff, pk_ck, nI_leI, Nat.le_refl]
  · intro m i W hi hW ih
    obtain ⟨w1, w2, w3⟩ := hW
    rw [q_X12_copies_2]
    simp (disch := omega) only [h1, h2, pk_ckT, pk_bs, pk_letE, pk_bd2E, pk_bd3E, if_true, if_false, eq_self, not_true_eq_false, not_false_eq_true, true_and, and_true, Nat.not_lt_zero, Nat.zero_le, Nat.reduceEqDiff, Nat.reduceLT, Nat.reduceLeDiff, pk_ck, pk_lit, nI_add, pk_mul, nI_clamp, nI_leI, nI_ltI, nI_eq, pk_div, pk_remE, pk_inE, pk_sub]
    rw [if_neg (by omega)]
    refine ih _ ⟨w1, fun c hc => (pk_rowI hc).trans (w2 c hc), fun j hj => ?_⟩
    rw [pk_rI_same]
    by_cases c : j = i
    · rw [if_pos c, c]; exact congrFun (w2 a hab) i
    · rw [if_neg c]; exact w3 j (by omega)
/-- another state of the class, the route forgotten -/
theorem pk_JC.goto (h : pk_JC z Y V t u s D P T tl st hs img pl fp r0 r1) (hc : pk_Ch z Y V (D 0 0) s' g hs') : pk_CA z (bk_wR Y z 7 (some s')) (bk_wI (bk_wI V z 8 (nI hs'.length)) (z + 3) 6 (nI 0)) (D, P, T, tl, g, hs', img, pl, fp, r0, r1) ∧ pk_offR z V (bk_wI (bk_wI V z 8 (nI hs'.length)) (z + 3) 6 (nI 0)) := by
  have hn := h.ne
  constructor
  · refine ⟨t, u, s', ?_⟩
    obtain ⟨g1, g2, ⟨g3, g3a, g3b⟩, g4, ⟨g5, g5a⟩, g6, g7, g8, g9, ⟨g10, g10a, g10b⟩, g11⟩ := h
    have rowV : ∀ a, a ≠ z → a ≠ z + 3 → (bk_wI (bk_wI V z 8 (nI hs'.length)) (z + 3) 6 (nI 0)).1 a = V.1 a := fun a q1 q2 => by rw [pk_rowI q2, pk_rowI q1]
    have sl : ∀ k, k ≠ 8 → bk_rI (bk_wI (bk_wI V z 8 (nI hs'.length)) (z + 3) 6 (nI 0)) z k = bk_rI V z k := fun k q => by rw [pk_rI_ne (by omega)]; exact pk_slot q
    have rz : ∀ k, k ≠ 7 → bk_rR (bk_wR Y z 7 (some s')) z k = bk_rR Y z k := fun k q => by rw [pk_rR_wR, if_neg (fun g => q g.2)]
    have kp : pk_kp z Y V (bk_wR Y z 7 (some s')) (bk_wI (bk_wI V z 8 (nI hs'.length)) (z + 3) 6 (nI 0)) := ⟨Nat.le_refl _, fun a ha => ⟨rfl, pk_rowR (by have := ha.1; omega), rowV a (by have := ha.1; omega) (by have := ha.1; omega), rfl⟩⟩
    refine ⟨g1.wR (Or.inl ⟨rfl, by decide⟩), g2, ⟨(rz 5 (by omega)).trans g3, (rz 6 (by omega)).trans g3a, by rw [pk_rR_wR, if_pos ⟨rfl, rfl⟩]⟩, g4.of (fun a q1 q2 q3 => rowV a (by omega) (by omega)), ⟨(congrFun (rowV (z + 1) (by omega) (by omega)) 1).trans g5, fun j hj => (congrFun (rowV (z + 2) (by omega) (by omega)) j).trans (g5a j hj)⟩, hc.kp kp, ?_, ?_, ?_, ⟨(sl 12 (by omega)).trans g10, (sl 13 (by omega)).trans g10a, (sl 14 (by omega)).trans g10b⟩, Or.inl ?_⟩
    · rw [pk_rI_ne (by omega), pk_rI_same, if_pos rfl]
    · cases img with
      | none => exact (rz 9 (by omega)).trans g8
      | some g =>
        obtain ⟨s', i1, i2, i3⟩ := g8
        exact ⟨s', (rz 9 (by omega)).trans i1, i2.kp kp, (sl 10 (by omega)).trans i3⟩
    · cases pl with
      | none => exact (sl 11 (by omega)).trans g9
      | some f => exact ⟨(sl 11 (by omega)).trans g9.1, fun i hi => (congrFun (rowV (z + 8) (by omega) (by omega)) i).trans (g9.2 i hi)⟩
    · rw [pk_rI_same, if_pos rfl]
  · intro a q1 q2
    exact ⟨by rw [pk_rowI (by omega), pk_rowI (by omega)], rfl⟩
theorem pk_sub1 (h : 0 < n) : nI n - nI 1 = nI (n - 1) := pk_sub h
theorem pr_undo (hN : 20000 ≤ N) (hS : pk_Rf Y r) (hR : pk_JR r V D P T tl st (g :: hs) img pl fp r0 r1) (hl : (g :: hs).length ≤ 40) : ∃ V', q_X12_undo N Y V r = some (nI hs.length, V') ∧ pk_out0 r V V' ∧ pk_JR r V' D P T tl g hs img pl fp r0 r1 := by
  have h3 := hR.w0 (x := nI 0)
  have o3 := pk_out0.w0 (r := r) (V := V)
  obtain ⟨V0, hV0⟩ : ∃ V0, V0 = bk_wI V r 0 (nI 0) := ⟨_, rfl⟩
  rw [← hV0] at h3 o3
  have hlen : (g :: hs).length = hs.length + 1 := rfl
  obtain ⟨c1, c2, c3, c4, c5⟩ := h3.2.2.2.2.1
  have h61 : bk_rI V0 r 61 = nI (hs.length + 1) := h3.2.2.2.1
  generalize hn : hs.length = n at *
  have h4 : pk_JR r (bk_wI V0 r 61 (nI n)) D P T tl st hs img pl fp r0 r1 := h3.hist pk_frK.rf.w61 (by rw [pk_rI_same, if_pos rfl, hn]) (c5.of (pk_rowI (by omega)) rfl)
  let V4 : bk_Val := bk_wI (bk_wI (bk_wI (bk_wI V0 r 61 (nI n)) r 58 (nI g.1)) r 59 (nI g.2.1)) r 60 (nI g.2.2.1)
  have sl : ∀ k, k ≠ 58 → k ≠ 59 → k ≠ 60 → V4.1 r k = (bk_wI V0 r 61 (nI n)).1 r k := fun k q1 q2 q3 => by
    show (bk_wI (bk_wI (bk_wI _ r 58 _) r 59 _) r 60 _).1 r k = _
    rw [pk_slot q3, pk_slot q2, pk_slot q1]
  have o4 : pk_out0 r V V4 := (((o3.wS (k := 61) (by decide)).wS (k := 58) (by decide)).wS (k := 59) (by decide)).wS (k := 60) (by decide)
  have L := loop_i (σ := bk_Val) (fun m i W => ∃ V', q_X12_undo_75 N Y m W r (nI i) = some (nI n, V') ∧ V'.1 = V4.1 ∧ (∀ a, a ≠ r + 15 → V'.2 a = V4.2 a) ∧ ∀ j, j < 336 → bk_rL V' (r + 15) j = lN (g.2.2.2 j))
    (fun i W => W.1 = V4.1 ∧ (∀ a, a ≠ r + 15 → W.2 a = V4.2 a) ∧ ∀ j, j < i → bk_rL W (r + 15) j = lN (g.2.2.2 j)) 336 ?_ ?_ N 0 V4 (by omega) (by omega) ⟨rfl, fun _ _ => rfl, fun j hj => by omega⟩
  · obtain ⟨V', e1, e2, e3, e4⟩ := L
    refine ⟨V', ?_, ?_, ?_⟩
    · simp only [q_X12_undo, hS, pk_ckT, eq_self, pk_letE, pk_lit, ← hV0]
      simp (disch := omega) only [pk_lit, nI_add, pk_mul, nI_clamp, nI_leI, nI_ltI, nI_eq, pk_div, pk_remE, pk_inE, pk_sub, pk_ckT, pk_bs, pk_letE, pk_bd2E, pk_bd3E, if_true, if_false, eq_self, not_true_eq_false, not_false_eq_true, true_and, and_true, Nat.not_lt_zero, Nat.zero_le, Nat.reduceEqDiff, Nat.reduceLT, Nat.reduceLeDiff, pk_ck, hS, h61, pk_rI_same, pk_rI_ne, pk_rI_wL, pk_rL_wI, pk_rL_same, pk_rL_ne, c1, c2, c3, Nat.add_sub_cancel]
      exact e1
    · refine ⟨by show V'.1 r 0 = _; rw [e2]; exact o4.1, fun a q => ⟨by rw [e2]; exact (o4.2 a q).1, (e3 a (by omega)).trans (o4.2 a q).2⟩⟩
    · refine h4.sta (fun a q1 q2 q3 q4 q5 => ?_) (fun k q0 q1 q2 q3 q4 q5 q6 q7 => by rw [e2]; exact sl k q1 q2 q3) (fun a q1 q2 q3 q4 q5 q6 => e3 a q3) ⟨?_, ?_, ?_, e4⟩
      · rw [e2]
        show (bk_wI (bk_wI (bk_wI _ r 58 _) r 59 _) r 60 _).1 a = _
        rw [pk_rowI (by omega), pk_rowI (by omega), pk_rowI (by omega)]
      · show V'.1 r 58 = _
        rw [e2]
        show bk_rI (bk_wI (bk_wI (bk_wI _ r 58 _) r 59 _) r 60 _) r 58 = _
        simp only [pk_rI_same, pk_ckT, pk_bs, pk_letE, pk_bd2E, pk_bd3E, if_true, if_false, eq_self, not_true_eq_false, not_false_eq_true, true_and, and_true, Nat.not_lt_zero, Nat.zero_le, Nat.reduceEqDiff, Nat.reduceLT, Nat.reduceLeDiff, pk_ck]
      · show V'.1 r 59 = _
        rw [e2]
        show bk_rI (bk_wI (bk_wI (bk_wI _ r 58 _) r 59 _) r 60 _) r 59 = _
        simp only [pk_rI_same, pk_ckT, pk_bs, pk_letE, pk_bd2E, pk_bd3E, if_true, if_false, eq_self, not_true_eq_false, not_false_eq_true, true_and, and_true, Nat.not_lt_zero, Nat.zero_le, Nat.reduceEqDiff, Nat.reduceLT, Nat.reduceLeDiff, pk_ck]
      · show V'.1 r 60 = _
        rw [e2]
        show bk_rI (bk_wI (bk_wI (bk_wI _ r 58 _) r 59 _) r 60 _) r 60 = _
        simp only [pk_rI_same, pk_ckT, pk_bs, pk_letE, pk_bd2E, pk_bd3E, if_true, if_false, eq_self, not_true_eq_false, not_false_eq_true, true_and, and_true, Nat.not_lt_zero, Nat.zero_le, Nat.reduceEqDiff, Nat.reduceLT, Nat.reduceLeDiff, pk_ck]
  · intro m W hW
    refine ⟨W, ?_, hW⟩
    have e61 : bk_rI W r 61 = nI n := by
      show W.1 r 61 = _
      rw [hW.1, sl 61 (by decide) (by decide) (by decide)]
      show bk_rI (bk_wI V0 r 61 (nI n)) r 61 = _
      rw [pk_rI_same, if_pos rfl]
    rw [q_X12_undo_75]
    simp (disch := omega) only [hS, pk_ckT, pk_bs, pk_letE, pk_bd2E, pk_bd3E, if_true, if_false, eq_self, not_true_eq_false, not_false_eq_true, true_and, and_true, Nat.not_lt_zero, Nat.zero_le, Nat.reduceEqDiff, Nat.reduceLT, Nat.reduceLeDiff, pk_ck, pk_lit, nI_add, pk_mul, nI_clamp, nI_leI, nI_ltI, nI_eq, pk_div, pk_remE, pk_inE, pk_sub, Nat.le_refl, e61]
  · intro m i W hi hW ih
    obtain ⟨w1, w2, w3⟩ := hW
    have e61 : bk_rI W r 61 = nI n := by
      show W.1 r 61 = _
      rw [w1, sl 61 (by decide) (by decide) (by decide)]
      show bk_rI (bk_wI V0 r 61 (nI n)) r 61 = _
      rw [pk_rI_same, if_pos rfl]
    have e16 : bk_rL W (r + 16) (336 * n + i) = lN (g.2.2.2 i) := by
      rw [← c4 i hi]
      exact congrFun (w2 (r + 16) (by omega)) _
    rw [q_X12_undo_75]
    simp (disch := omega) only [hS, pk_ckT, pk_bs, pk_letE, pk_bd2E, pk_bd3E, if_true, if_false, eq_self, not_true_eq_false, not_false_eq_true, true_and, and_true, Nat.not_lt_zero, Nat.zero_le, Nat.reduceEqDiff, Nat.reduceLT, Nat.reduceLeDiff, pk_ck, pk_lit, nI_add, pk_mul, nI_clamp, nI_leI, nI_ltI, nI_eq, pk_div, pk_remE, pk_inE, pk_sub, e61, e16]
    rw [if_neg (by omega)]
    refine ih _ ⟨w1, fun a ha => (pk_rowL ha).trans (w2 a ha), fun j hj => ?_⟩
    rw [pk_rL_same]
    by_cases c : j = i
    · rw [if_pos c, c]
    · rw [if_neg c]; exact w3 j (by omega)
theorem st_8 (hN : 20000 ≤ N) (hI : pk_IA z Y V) : bk_st8 N z (z + 58) (z + 86) Y V x1 x2 x3 x4 x5 (pk_IA z) := by
  obtain ⟨t, u, s, D, P, T, tl, st, hs, img, pl, fp, r0, r1, hJ, hR, hB, hC, hRA, hBA⟩ := hI.e
  obtain ⟨hM, hS, hz, hT, hs5, -⟩ := hJ.o
  have h8 := hJ.2.2.2.2.2.2.1
  cases hs with
  | nil =>
    have hRf := hC.rf.1
    refine ⟨-nI 1, Y, V, ?_, pk_stN hC hBA ⟨bk_wI V (z + 58) 0 (nI 0), ?_, pk_out0.w0, hR.w0⟩⟩
    · have h8' : bk_rI V z 8 = nI 0 := h8
      simp only [q_X11_undo, hM, pk_ckT, eq_self, h8', pk_lit, if_true]
    · have h61 : bk_rI (bk_wI V (z + 58) 0 (nI 0)) (z + 58) 61 = nI 0 := hR.w0.2.2.2.1
      simp only [q_X12_undo, hRf, pk_ckT, eq_self, pk_letE, pk_lit, h61, if_true]
  | cons g hs =>
    obtain ⟨k1, s', k2, k3⟩ := hJ.2.2.2.2.2.1
    obtain ⟨hC1, ho⟩ := hJ.goto k3
    have hl : (g :: hs).length ≤ 40 := hB.2.2.1.2.2
    have hlen : (g :: hs).length = hs.length + 1 := rfl
    rw [hlen] at h8
    obtain ⟨V2, e1, e2, e3⟩ := pr_undo (N := N) hN hC1.rf.1 (show pk_JR (z + 58) _ D P T tl st (g :: hs) img pl fp r0 r1 from hRA.off ho) hl
    have hb : pk_HB D g hs := ⟨hB.2.2.1.2.1 g List.mem_cons_self, fun q hq => hB.2.2.1.2.1 q (List.mem_cons_of_mem _ hq), by omega⟩
    refine ⟨nI hs.length, _, _, ?_, pk_stN hC1 ⟨hB.1, hB.2.1, hb, hB.2.2.2⟩ ⟨V2, e1, e2, e3⟩⟩
    have a1 : bk_rR (bk_wR Y z 7 (some s')) z 1 = some (z + 3) := by rw [pk_rR_wR, if_neg (by omega)]; exact hM.2.2.1
    have a2 : bk_sh (bk_wR Y z 7 (some s')) (z + 3) = (1, 2) := by simp only [pk_sh_wR, hM]
    simp (disch := omega) only [q_X11_undo, hM, hz, hs5, pk_ckT, pk_bs, pk_letE, pk_bd2E, pk_bd3E, if_true, if_false, eq_self, not_true_eq_false, not_false_eq_true, true_and, and_true, Nat.not_lt_zero, Nat.zero_le, Nat.reduceEqDiff, Nat.reduceLT, Nat.reduceLeDiff, pk_ck, h8, pk_lit, nI_eq, k2, bk_nl, a1, a2, q_X3_forget, pk_sub, pk_rI_same, pk_rI_ne, pk_rI_wL, pk_rL_wI, pk_rL_same, pk_rL_ne, Nat.add_sub_cancel]
/-! image -/
theorem pk_RH.move {a b a' b' : Nat} : ∀ {l : List pk_St}, pk_RH V a b l → (∀ j, j < 3 * l.length → bk_rI V' a' j = bk_rI V a j) → (∀ j, j < 336 * l.length → bk_rL V' b' j = bk_rL V b j) → pk_RH V' a' b' l
  | [], _, _, _ => trivial
  | g :: l, ⟨c1, c2, c3, c4, c5⟩, h1, h2 => by
    have e : (g :: l).length = l.length + 1 := rfl
    exact ⟨(h1 _ (by omega)).trans c1, (h1 _ (by omega)).trans c2, (h1 _ (by omega)).trans c3, fun p hp => (h2 _ (by omega)).trans (c4 p hp), c5.move (fun j hj => h1 j (by omega)) (fun j hj => h2 j (by omega))⟩
theorem pr_image (hN : 20000 ≤ N) (hS : pk_Rf Y r) (hR : pk_JR r V D P T tl st hs img pl fp r0 r1) (hl : hs.length ≤ 40) : ∃ V', q_X12_image N Y V r = some V' ∧ pk_out0 r V V' ∧ pk_JR r V' D P T tl st hs (some (st, hs)) pl fp r0 r1 := by
  obtain ⟨Vw, hVw⟩ : ∃ Vw, Vw = bk_wI (bk_wI (bk_wI (bk_wI (bk_wI (bk_wI V r 0 (nI 0)) r 77 (nI 1)) r 78 (nI st.1)) r 79 (nI st.2.1)) r 80 (nI st.2.2.1)) r 81 (nI hs.length) := ⟨_, rfl⟩
  obtain ⟨Va, a1, a2, a3, a4⟩ := pr_copiesL (N := N) (Y := Y) (V := Vw) (a := r + 15) (b := r + 25) (n := 336) hN (by simp only [hS]) (by simp only [hS]) (by omega) (by omega)
  obtain ⟨Vb, b1, b2, b3, b4⟩ := pr_copiesL (N := N) (Y := Y) (V := Va) (a := r + 16) (b := r + 26) (n := 13440) hN (by simp only [hS]) (by simp only [hS]) (by omega) (by omega)
  obtain ⟨Vc, c1, c2, c3, c4⟩ := pr_copiesI (N := N) (Y := Y) (V := Vb) (r := r) (a := r + 17) (b := r + 27) (n := 120) hN (by simp only [hS]) (by simp only [hS]) (by omega) (by omega)
  have rowI : ∀ a, a ≠ r → a ≠ r + 27 → Vc.1 a = V.1 a := fun a q1 q2 => by
    rw [c3 a q2, b2, a2, hVw, pk_rowI q1, pk_rowI q1, pk_rowI q1, pk_rowI q1, pk_rowI q1, pk_rowI q1]
  have slw : ∀ k, Vc.1 r k = Vw.1 r k := fun k => by rw [c3 r (by omega), b2, a2]
  have sl : ∀ k, k ≠ 0 → (k < 77 ∨ 81 < k) → bk_rI Vc r k = bk_rI V r k := fun k q1 q2 => by
    show Vc.1 r k = _
    rw [slw, hVw, pk_slot (by omega), pk_slot (by omega), pk_slot (by omega), pk_slot (by omega), pk_slot (by omega), pk_slot q1]
    rfl
  have rowL : ∀ a, a ≠ r + 25 → a ≠ r + 26 → Vc.2 a = V.2 a := fun a q1 q2 => by
    rw [c2, b3 a q2, a3 a q1, hVw]
    rfl
  have rI : ∀ a j, a ≠ r → a ≠ r + 27 → bk_rI Vc a j = bk_rI V a j := fun a j q1 q2 => congrFun (rowI a q1 q2) j
  have rL : ∀ a j, a ≠ r + 25 → a ≠ r + 26 → bk_rL Vc a j = bk_rL V a j := fun a j q1 q2 => congrFun (rowL a q1 q2) j
  obtain ⟨h1, ⟨h2, h2'⟩, ⟨h3, h3a, h3b, h3c⟩, h4, h5, h6, h7, h8, h8a, h8b⟩ := hR
  refine ⟨Vc, ?_, ⟨?_, fun a q => ⟨rowI a (by omega) (by omega), rowL a (by omega) (by omega)⟩⟩, h1.of (fun a q1 q2 => rowI a (by omega) (by omega)) (fun k q1 q2 => sl k (by omega) (by omega)), ⟨(sl _ (by omega) (by omega)).trans h2, fun j hj => (rI _ _ (by omega) (by omega)).trans (h2' j hj)⟩, ⟨(sl _ (by omega) (by omega)).trans h3, (sl _ (by omega) (by omega)).trans h3a, (sl _ (by omega) (by omega)).trans h3b, fun p hp => (rL _ _ (by omega) (by omega)).trans (h3c p hp)⟩, (sl _ (by omega) (by omega)).trans h4, h5.of (rowI _ (by omega) (by omega)) (rowL _ (by omega) (by omega)), ⟨?_, ?_, ?_, ?_, ?_, fun p hp => ?_, ?_⟩, ?_, (sl _ (by omega) (by omega)).trans h8, (rI _ _ (by omega) (by omega)).trans h8a, (rI _ _ (by omega) (by omega)).trans h8b⟩
  · simp (disch := omega) only [q_X12_image, hS, pk_ckT, pk_bs, pk_letE, pk_bd2E, pk_bd3E, if_true, if_false, eq_self, not_true_eq_false, not_false_eq_true, true_and, and_true, Nat.not_lt_zero, Nat.zero_le, Nat.reduceEqDiff, Nat.reduceLT, Nat.reduceLeDiff, pk_ck, pk_lit, pk_rI_same, pk_rI_ne, pk_rI_wL, pk_rL_wI, pk_rL_same, pk_rL_ne, h3, h3a, h3b, h4, ← hVw, a1, b1, c1]
  · show Vc.1 r 0 = _
    rw [slw, hVw]
    show bk_rI (bk_wI _ r 81 _) r 0 = _
    simp only [pk_rI_same, pk_ckT, pk_bs, pk_letE, pk_bd2E, pk_bd3E, if_true, if_false, eq_self, not_true_eq_false, not_false_eq_true, true_and, and_true, Nat.not_lt_zero, Nat.zero_le, Nat.reduceEqDiff, Nat.reduceLT, Nat.reduceLeDiff, pk_ck]
  · show Vc.1 r 77 = _
    rw [slw, hVw]
    show bk_rI (bk_wI _ r 81 _) r 77 = _
    simp only [pk_rI_same, pk_ckT, pk_bs, pk_letE, pk_bd2E, pk_bd3E, if_true, if_false, eq_self, not_true_eq_false, not_false_eq_true, true_and, and_true, Nat.not_lt_zero, Nat.zero_le, Nat.reduceEqDiff, Nat.reduceLT, Nat.reduceLeDiff, pk_ck]
  · show Vc.1 r 78 = _
    rw [slw, hVw]
    show bk_rI (bk_wI _ r 81 _) r 78 = _
    simp only [pk_rI_same, pk_ckT, pk_bs, pk_letE, pk_bd2E, pk_bd3E, if_true, if_false, eq_self, not_true_eq_false, not_false_eq_true, true_and, and_true, Nat.not_lt_zero, Nat.zero_le, Nat.reduceEqDiff, Nat.reduceLT, Nat.reduceLeDiff, pk_ck]
  · show Vc.1 r 79 = _
    rw [slw, hVw]
    show bk_rI (bk_wI _ r 81 _) r 79 = _
    simp only [pk_rI_same, pk_ckT, pk_bs, pk_letE, pk_bd2E, pk_bd3E, if_true, if_false, eq_self, not_true_eq_false, not_false_eq_true, true_and, and_true, Nat.not_lt_zero, Nat.zero_le, Nat.reduceEqDiff, Nat.reduceLT, Nat.reduceLeDiff, pk_ck]
  · show Vc.1 r 80 = _
    rw [slw, hVw]
    show bk_rI (bk_wI _ r 81 _) r 80 = _
    simp only [pk_rI_same, pk_ckT, pk_bs, pk_letE, pk_bd2E, pk_bd3E, if_true, if_false, eq_self, not_true_eq_false, not_false_eq_true, true_and, and_true, Nat.not_lt_zero, Nat.zero_le, Nat.reduceEqDiff, Nat.reduceLT, Nat.reduceLeDiff, pk_ck]
  · show Vc.1 r 81 = _
    rw [slw, hVw]
    show bk_rI (bk_wI _ r 81 _) r 81 = _
    simp only [pk_rI_same, pk_ckT, pk_bs, pk_letE, pk_bd2E, pk_bd3E, if_true, if_false, eq_self, not_true_eq_false, not_false_eq_true, true_and, and_true, Nat.not_lt_zero, Nat.zero_le, Nat.reduceEqDiff, Nat.reduceLT, Nat.reduceLeDiff, pk_ck]
  · rw [← h3c p hp]
    show Vc.2 (r + 25) p = _
    rw [c2, b3 _ (by omega)]
    show bk_rL Va (r + 25) p = _
    rw [a4 p hp, hVw]
    rfl
  · refine h5.move (fun j hj => ?_) (fun j hj => ?_)
    · rw [c4 j (by omega)]
      show Vb.1 (r + 17) j = _
      rw [b2, a2, hVw, pk_rowI (by omega), pk_rowI (by omega), pk_rowI (by omega), pk_rowI (by omega), pk_rowI (by omega), pk_rowI (by omega)]
      rfl
    · show Vc.2 (r + 26) j = _
      rw [c2]
      show bk_rL Vb (r + 26) j = _
      rw [b4 j (by omega)]
      show Va.2 (r + 16) j = _
      rw [a3 _ (by omega), hVw]
      rfl
  · cases pl with
    | none => exact (sl _ (by omega) (by omega)).trans h7
    | some f => exact ⟨(sl _ (by omega) (by omega)).trans h7.1, fun i hi => (rI _ _ (by omega) (by omega)).trans (h7.2 i hi)⟩
theorem pr_restore (hN : 20000 ≤ N) (hS : pk_Rf Y r) (hR : pk_JR r V D P T tl st hs (some (g, hs')) pl fp r0 r1) (hl : hs'.length ≤ 40) : ∃ V', q_X12_restore N Y V r = some (nI 1, V') ∧ pk_out0 r V V' ∧ pk_JR r V' D P T tl g hs' (some (g, hs')) pl fp r0 r1 := by
  obtain ⟨Vw, hVw⟩ : ∃ Vw, Vw = bk_wI (bk_wI (bk_wI (bk_wI (bk_wI V r 0 (nI 0)) r 58 (nI g.1)) r 59 (nI g.2.1)) r 60 (nI g.2.2.1)) r 61 (nI hs'.length) := ⟨_, rfl⟩
  obtain ⟨Va, a1, a2, a3, a4⟩ := pr_copiesL (N := N) (Y := Y) (V := Vw) (a := r + 25) (b := r + 15) (n := 336) hN (by simp only [hS]) (by simp only [hS]) (by omega) (by omega)
  obtain ⟨Vb, b1, b2, b3, b4⟩ := pr_copiesL (N := N) (Y := Y) (V := Va) (a := r + 26) (b := r + 16) (n := 13440) hN (by simp only [hS]) (by simp only [hS]) (by omega) (by omega)
  obtain ⟨Vc, c1, c2, c3, c4⟩ := pr_copiesI (N := N) (Y := Y) (V := Vb) (r := r) (a := r + 27) (b := r + 17) (n := 120) hN (by simp only [hS]) (by simp only [hS]) (by omega) (by omega)
  have rowI : ∀ a, a ≠ r → a ≠ r + 17 → Vc.1 a = V.1 a := fun a q1 q2 => by
    rw [c3 a q2, b2, a2, hVw, pk_rowI q1, pk_rowI q1, pk_rowI q1, pk_rowI q1, pk_rowI q1]
  have slw : ∀ k, Vc.1 r k = Vw.1 r k := fun k => by rw [c3 r (by omega), b2, a2]
  have sl : ∀ k, k ≠ 0 → (k < 58 ∨ 61 < k) → bk_rI Vc r k = bk_rI V r k := fun k q1 q2 => by
    show Vc.1 r k = _
    rw [slw, hVw, pk_slot (by omega), pk_slot (by omega), pk_slot (by omega), pk_slot (by omega), pk_slot q1]
    rfl
  have rowL : ∀ a, a ≠ r + 15 → a ≠ r + 16 → Vc.2 a = V.2 a := fun a q1 q2 => by
    rw [c2, b3 a q2, a3 a q1, hVw]
    rfl
  have rI : ∀ a j, a ≠ r → a ≠ r + 17 → bk_rI Vc a j = bk_rI V a j := fun a j q1 q2 => congrFun (rowI a q1 q2) j
  have rL : ∀ a j, a ≠ r + 15 → a ≠ r + 16 → bk_rL Vc a j = bk_rL V a j := fun a j q1 q2 => congrFun (rowL a q1 q2) j
  obtain ⟨h1, ⟨h2, h2'⟩, -, h4, h5, ⟨i1, i2, i3, i4, i5, i6, i7⟩, h7, h8, h8a, h8b⟩ := hR
  have i5 : bk_rI V r 81 = nI hs'.length := i5
  refine ⟨Vc, ?_, ⟨?_, fun a q => ⟨rowI a (by omega) (by omega), rowL a (by omega) (by omega)⟩⟩, h1.of (fun a q1 q2 => rowI a (by omega) (by omega)) (fun k q1 q2 => sl k (by omega) (by omega)), ⟨(sl _ (by omega) (by omega)).trans h2, fun j hj => (rI _ _ (by omega) (by omega)).trans (h2' j hj)⟩, ⟨?_, ?_, ?_, fun p hp => ?_⟩, ?_, ?_, ⟨(sl _ (by omega) (by omega)).trans i1, (sl _ (by omega) (by omega)).trans i2, (sl _ (by omega) (by omega)).trans i3, (sl _ (by omega) (by omega)).trans i4, (sl _ (by omega) (by omega)).trans i5, fun p hp => (rL _ _ (by omega) (by omega)).trans (i6 p hp), i7.of (rowI _ (by omega) (by omega)) (rowL _ (by omega) (by omega))⟩, ?_, (sl _ (by omega) (by omega)).trans h8, (rI _ _ (by omega) (by omega)).trans h8a, (rI _ _ (by omega) (by omega)).trans h8b⟩
  · simp (disch := omega) only [q_X12_restore, hS, pk_ckT, pk_bs, pk_letE, pk_bd2E, pk_bd3E, if_true, if_false, eq_self, not_true_eq_false, not_false_eq_true, true_and, and_true, Nat.not_lt_zero, Nat.zero_le, Nat.reduceEqDiff, Nat.reduceLT, Nat.reduceLeDiff, pk_ck, pk_lit, nI_eq, pk_rI_same, pk_rI_ne, pk_rI_wL, pk_rL_wI, pk_rL_same, pk_rL_ne, i1, i2, i3, i4, i5, ← hVw, a1, b1, c1]
  · show Vc.1 r 0 = _
    rw [slw, hVw]
    show bk_rI (bk_wI _ r 61 _) r 0 = _
    simp only [pk_rI_same, pk_ckT, pk_bs, pk_letE, pk_bd2E, pk_bd3E, if_true, if_false, eq_self, not_true_eq_false, not_false_eq_true, true_and, and_true, Nat.not_lt_zero, Nat.zero_le, Nat.reduceEqDiff, Nat.reduceLT, Nat.reduceLeDiff, pk_ck]
  · show Vc.1 r 58 = _
    rw [slw, hVw]
    show bk_rI (bk_wI _ r 61 _) r 58 = _
    simp only [pk_rI_same, pk_ckT, pk_bs, pk_letE, pk_bd2E, pk_bd3E, if_true, if_false, eq_self, not_true_eq_false, not_false_eq_true, true_and, and_true, Nat.not_lt_zero, Nat.zero_le, Nat.reduceEqDiff, Nat.reduceLT, Nat.reduceLeDiff, pk_ck]
  · show Vc.1 r 59 = _
    rw [slw, hVw]
    show bk_rI (bk_wI _ r 61 _) r 59 = _
    simp only [pk_rI_same, pk_ckT, pk_bs, pk_letE, pk_bd2E, pk_bd3E, if_true, if_false, eq_self, not_true_eq_false, not_false_eq_true, true_and, and_true, Nat.not_lt_zero, Nat.zero_le, Nat.reduceEqDiff, Nat.reduceLT, Nat.reduceLeDiff, pk_ck]
  · show Vc.1 r 60 = _
    rw [slw, hVw]
    show bk_rI (bk_wI _ r 61 _) r 60 = _
    simp only [pk_rI_same, pk_ckT, pk_bs, pk_letE, pk_bd2E, pk_bd3E, if_true, if_false, eq_self, not_true_eq_false, not_false_eq_true, true_and, and_true, Nat.not_lt_zero, Nat.zero_le, Nat.reduceEqDiff, Nat.reduceLT, Nat.reduceLeDiff, pk_ck]
  · rw [← i6 p hp]
    show Vc.2 (r + 15) p = _
    rw [c2, b3 _ (by omega)]
    show bk_rL Va (r + 15) p = _
    rw [a4 p hp, hVw]
    rfl
  · show Vc.1 r 61 = _
    rw [slw, hVw]
    show bk_rI (bk_wI _ r 61 _) r 61 = _
    simp only [pk_rI_same, pk_ckT, pk_bs, pk_letE, pk_bd2E, pk_bd3E, if_true, if_false, eq_self, not_true_eq_false, not_false_eq_true, true_and, and_true, Nat.not_lt_zero, Nat.zero_le, Nat.reduceEqDiff, Nat.reduceLT, Nat.reduceLeDiff, pk_ck]
  · have i7 : pk_RH V (r + 27) (r + 26) hs' := i7
    refine i7.move (fun j hj => ?_) (fun j hj => ?_)
    · rw [c4 j (by omega)]
      show Vb.1 (r + 27) j = _
      rw [b2, a2, hVw, pk_rowI (by omega), pk_rowI (by omega), pk_rowI (by omega), pk_rowI (by omega), pk_rowI (by omega)]
      rfl
    · show Vc.2 (r + 16) j = _
      rw [c2]
      show bk_rL Vb (r + 16) j = _
      rw [b4 j (by omega)]
      show Va.2 (r + 26) j = _
      rw [a3 _ (by omega), hVw]
      rfl
  · cases pl with
    | none => exact (sl _ (by omega) (by omega)).trans h7
    | some f => exact ⟨(sl _ (by omega) (by omega)).trans h7.1, fun i hi => (rI _ _ (by omega) (by omega)).trans (h7.2 i hi)⟩
theorem st_42 (hN : 20000 ≤ N) (hI : pk_IA z Y V) : bk_st42 N z (z + 58) (z + 86) Y V x1 x2 x3 x4 x5 (pk_IA z) := by
  obtain ⟨t, u, s, D, P, T, tl, st, hs, img, pl, fp, r0, r1, hJ, hR, hB, hC, hRA, hBA⟩ := hI.e
  obtain ⟨hM, hS, hz, hT, hs5, -⟩ := hJ.o
  have hn := hJ.ne
  have h8 := hJ.2.2.2.2.2.2.1
  let Y1 : bk_Lay := bk_wR Y z 9 (some s)
  let V1 : bk_Val := bk_wI V z 10 (nI hs.length)
  have hC1 : pk_CA z Y1 V1 (D, P, T, tl, st, hs, some (st, hs), pl, fp, r0, r1) := by
    refine ⟨t, u, s, ?_⟩
    obtain ⟨g1, g2, ⟨g3, g3a, g3b⟩, g4, ⟨g5, g5a⟩, g6, g7, g8, g9, ⟨g10, g10a, g10b⟩, g11⟩ := hJ
    have sl : ∀ k, k ≠ 10 → bk_rI V1 z k = bk_rI V z k := fun k q => pk_slot q
    have rz : ∀ k, k ≠ 9 → bk_rR Y1 z k = bk_rR Y z k := fun k q => by show bk_rR (bk_wR Y z 9 _) z k = _; rw [pk_rR_wR, if_neg (fun g => q g.2)]
    have kp : pk_kp z Y V Y1 V1 := ⟨Nat.le_refl _, fun a ha => ⟨rfl, pk_rowR (by have := ha.1; omega), pk_rowI (by have := ha.1; omega), rfl⟩⟩
    refine ⟨g1.wR (Or.inl ⟨rfl, by decide⟩), g2, ⟨(rz 5 (by omega)).trans g3, (rz 6 (by omega)).trans g3a, (rz 7 (by omega)).trans g3b⟩, g4.of (fun a q1 q2 q3 => pk_rowI (by omega)), ⟨(pk_rI_ne (by omega)).trans g5, fun j hj => (pk_rI_ne (by omega)).trans (g5a j hj)⟩, g6.kp kp, (sl 8 (by omega)).trans g7, ?_, ?_, ⟨(sl 12 (by omega)).trans g10, (sl 13 (by omega)).trans g10a, (sl 14 (by omega)).trans g10b⟩, g11.of (congrFun (pk_rowR (by omega)) 4) (fun a q1 q2 => ⟨pk_rowI (by omega), rfl⟩)⟩
    · refine ⟨s, ?_, g6.kp kp, ?_⟩
      · show bk_rR (bk_wR Y z 9 _) z 9 = _
        rw [pk_rR_wR, if_pos ⟨rfl, rfl⟩]
      · show bk_rI (bk_wI V z 10 _) z 10 = _
        rw [pk_rI_same, if_pos rfl]
    · cases pl with
      | none => exact (sl 11 (by omega)).trans g9
      | some f => exact ⟨(sl 11 (by omega)).trans g9.1, fun i hi => (pk_rI_ne (by omega)).trans (g9.2 i hi)⟩
  have ho : pk_offR z V V1 := fun a q1 q2 => ⟨pk_rowI (by omega), rfl⟩
  have hR1 : pk_JR (z + 58) V1 D P T tl st hs img pl fp r0 r1 := hRA.off ho
  have hRf := hC1.rf.1
  obtain ⟨V2, e1, e2, e3⟩ := pr_image (N := N) hN hRf hR1 hB.2.2.1.2.2
  refine ⟨Y1, V1, ?_, hRf.1, V2, e1, pk_RO.I (k := 0) ⟨e2.1, e2.2, (show pk_RA (z + 58) V2 (D, P, T, tl, st, hs, some (st, hs), pl, fp, r0, r1) from e3)⟩ hC1 ⟨hB.1, hB.2.1, hB.2.2.1, fun q hq => ?_⟩⟩
  · simp only [q_X11_image, hM, hz, pk_ckT, eq_self, pk_bs, pk_letE, h8]
    rfl
  · cases hq
    exact hB.2.2.1
theorem st_43 (hN : 20000 ≤ N) (hI : pk_IA z Y V) : bk_st43 N z (z + 58) (z + 86) Y V x1 x2 x3 x4 x5 (pk_IA z) := by
  obtain ⟨t, u, s, D, P, T, tl, st, hs, img, pl, fp, r0, r1, hJ, hR, hB, hC, hRA, hBA⟩ := hI.e
  obtain ⟨hM, hS, hz, hT, hs5, -⟩ := hJ.o
  have h9 := hJ.2.2.2.2.2.2.2.1
  cases img with
  | none =>
    have hRf := hC.rf.1
    have h9 : bk_rR Y z 9 = none := h9
    refine ⟨nI 0, Y, V, ?_, pk_stN hC hBA ⟨bk_wI V (z + 58) 0 (nI 0), ?_, pk_out0.w0, hR.w0⟩⟩
    · simp only [q_X11_restore, hM, pk_ckT, eq_self, h9, bk_nl, pk_lit]
    · have h77 : bk_rI (bk_wI V (z + 58) 0 (nI 0)) (z + 58) 77 = nI 0 := hR.w0.2.2.2.2.2.1
      simp only [q_X12_restore, hRf, pk_ckT, eq_self, pk_letE, pk_lit, h77, if_true]
  | some gg =>
    obtain ⟨g, hs'⟩ := gg
    obtain ⟨s', k1, k2, k3⟩ := h9
    have k2 : pk_Ch z Y V (D 0 0) s' g hs' := k2
    have k3 : bk_rI V z 10 = nI hs'.length := k3
    obtain ⟨hC1, ho⟩ := hJ.goto k2
    have hb : pk_HB D g hs' := hB.2.2.2 _ rfl
    obtain ⟨V2, e1, e2, e3⟩ := pr_restore (N := N) hN hC1.rf.1 (show pk_JR (z + 58) _ D P T tl st hs (some (g, hs')) pl fp r0 r1 from hRA.off ho) hb.2.2
    refine ⟨nI 1, _, _, ?_, pk_stN hC1 ⟨hB.1, hB.2.1, hb, hB.2.2.2⟩ ⟨V2, e1, e2, e3⟩⟩
    have a1 : bk_rR (bk_wR Y z 7 (some s')) z 1 = some (z + 3) := by rw [pk_rR_wR, if_neg (by omega)]; exact hM.2.2.1
    have a2 : bk_sh (bk_wR Y z 7 (some s')) (z + 3) = (1, 2) := by simp only [pk_sh_wR, hM]
    simp only [q_X11_restore, hM, pk_ckT, pk_bs, pk_letE, pk_bd2E, pk_bd3E, if_true, if_false, eq_self, not_true_eq_false, not_false_eq_true, true_and, and_true, Nat.not_lt_zero, Nat.zero_le, Nat.reduceEqDiff, Nat.reduceLT, Nat.reduceLeDiff, pk_ck, k1, k3, bk_nl, a1, a2, q_X3_forget, pk_lit]
end
