/-! plan: the reference, the step -/
section
variable {N z t u s tl r a b c d k n j h m l p q q0 md wa s' i f e gg v : Nat} {Y Y' : bk_Lay} {V V' V2 W : bk_Val} {x y x1 x2 x3 x4 x5 : Int32} {w1 w2 : Int64} {D : Nat → Nat → Nat} {P : Nat → List Nat} {T T' w R G : Nat → Nat} {st st' g : pk_St} {hs hs' : List pk_St} {img img' : Option (pk_St × List pk_St)} {pl pl' : Option (Nat → Nat)} {fp r0 r1 : Int32} {A B : pk_A}
theorem pk_frS.rf : pk_frS r V V := ⟨fun _ _ _ => rfl, fun _ _ => rfl, fun _ _ _ _ => rfl⟩
theorem pk_frS.tr (h : pk_frS r V V') (h2 : pk_frS r V' V2) : pk_frS r V V2 := ⟨fun a x y => (h2.1 a x y).trans (h.1 a x y), fun k x => (h2.2.1 k x).trans (h.2.1 k x), fun a x y w => (h2.2.2 a x y w).trans (h.2.2 a x y w)⟩
theorem pk_frS.w22 : pk_frS r V (bk_wI V (r + 22) k x) := ⟨fun _ _ q => pk_rowI q, fun _ _ => by rw [pk_rowI (by omega)], fun _ _ _ _ => rfl⟩
theorem pk_frS.w69 : pk_frS r V (bk_wI V r 69 x) := ⟨fun _ q _ => pk_rowI q, fun _ q => pk_slot q, fun _ _ _ _ => rfl⟩
theorem pk_frR.toS (h : pk_frR r V V') (e : V'.1 = V.1) : pk_frS r V V' := ⟨fun a _ _ => by rw [e], fun k _ => by rw [e], h.2.2⟩
theorem pk_frS.rt (f : pk_frS r V V') (h : pk_RT V r D P) : pk_RT V' r D P := h.of (fun a x y => f.1 a (by omega) (by omega)) (fun k x y => f.2.1 k (by omega))
theorem pk_JR.pln (h : pk_JR r V D P T tl st hs img pl fp r0 r1) (f : pk_frS r V V') (hn : pk_RP V' r pl') : pk_JR r V' D P T tl st hs img pl' fp r0 r1 := by
  obtain ⟨h1, ⟨h2, h2'⟩, ⟨h3, h3a, h3b, h3c⟩, h4, h5, h6, h7, h8, h8a, h8b⟩ := h
  have g1 : ∀ a j, a ≠ r → a ≠ r + 22 → bk_rI V' a j = bk_rI V a j := fun a j q1 q2 => congrFun (f.1 a q1 q2) j
  have g2 : ∀ k, k ≠ 69 → bk_rI V' r k = bk_rI V r k := f.2.1
  have g3 : ∀ a j, a ≠ r + 20 → a ≠ r + 21 → a ≠ r + 23 → bk_rL V' a j = bk_rL V a j := fun a j q1 q2 q3 => congrFun (f.2.2 a q1 q2 q3) j
  refine ⟨f.rt h1, ⟨(g2 _ (by omega)).trans h2, fun j hj => (g1 _ _ (by omega) (by omega)).trans (h2' j hj)⟩, ⟨(g2 _ (by omega)).trans h3, (g2 _ (by omega)).trans h3a, (g2 _ (by omega)).trans h3b, fun p hp => (g3 _ _ (by omega) (by omega) (by omega)).trans (h3c p hp)⟩, (g2 _ (by omega)).trans h4, h5.of (f.1 _ (by omega) (by omega)) (f.2.2 _ (by omega) (by omega) (by omega)), ?_, hn, (g2 _ (by omega)).trans h8, (g1 _ _ (by omega) (by omega)).trans h8a, (g1 _ _ (by omega) (by omega)).trans h8b⟩
  cases img with
  | none => exact (g2 _ (by omega)).trans h6
  | some g =>
    obtain ⟨i1, i2, i3, i4, i5, i6, i7⟩ := h6
    exact ⟨(g2 _ (by omega)).trans i1, (g2 _ (by omega)).trans i2, (g2 _ (by omega)).trans i3, (g2 _ (by omega)).trans i4, (g2 _ (by omega)).trans i5, fun p hp => (g3 _ _ (by omega) (by omega) (by omega)).trans (i6 p hp), i7.of (f.1 _ (by omega) (by omega)) (f.2.2 _ (by omega) (by omega) (by omega))⟩
theorem pk_out0.frS (h : pk_out0 r V V') (f : pk_frS r V' V2) : pk_out0 r V V2 := ⟨(f.2.1 0 (by omega)).trans h.1, fun a q => ⟨(f.1 a (by omega) (by omega)).trans (h.2 a q).1, (f.2.2 a (by omega) (by omega) (by omega)).trans (h.2 a q).2⟩⟩
theorem pr_pl98 (hN : 1000 ≤ N) (hS : pk_Rf Y r) (h22 : ∀ i, i < 84 → bk_rI V (r + 22) i = nI (sp_pln D w m i)) (hm : m ≤ 600) : q_X12_plan_98 N Y N V r 0 0 = some (nI (sp_cn D w m), V) := by
  refine loop_i (σ := Unit) (fun fu j _ => q_X12_plan_98 N Y fu V r (nI (sp_sum (fun i => if 0 < sp_pln D w m i then 1 else 0) j)) (nI j) = some (nI (sp_cn D w m), V)) (fun _ _ => True) 84 ?_ ?_ N 0 () (by omega) (by omega) trivial
  · intro fu _ _
    rw [q_X12_plan_98, if_pos (by decide)]
    rfl
  · intro fu j _ hj _ ih
    have ih' : q_X12_plan_98 N Y fu V r (nI (sp_sum (fun i => if 0 < sp_pln D w m i then 1 else 0) j + (if 0 < sp_pln D w m j then 1 else 0))) (nI (j + 1)) = some (nI (sp_cn D w m), V) := ih () trivial
    have hp := sp_pln_le (D := D) (w := w) (k := m) (i := j)
    rw [q_X12_plan_98]
    simp (disch := omega) only [hS, pk_ckT, pk_bs, pk_letE, pk_bd2E, pk_bd3E, if_true, if_false, eq_self, not_true_eq_false, not_false_eq_true, true_and, and_true, Nat.not_lt_zero, Nat.zero_le, Nat.reduceEqDiff, Nat.reduceLT, Nat.reduceLeDiff, pk_ck, pk_lit, nI_add, pk_mul, nI_clamp, nI_leI, nI_ltI, nI_eq, pk_div, pk_remE, pk_inE, pk_sub, h22 j hj, q_X12_plan_119]
    rw [if_neg (by omega)]
    by_cases c : 0 < sp_pln D w m j
    · rw [if_neg (by omega)]
      rw [if_pos c] at ih'
      exact ih'
    · rw [if_pos (by omega)]
      rw [if_neg c] at ih'
      exact ih'
theorem pr_pl50 (hN : 1000 ≤ N) (hS : pk_Rf Y r) (hT : pk_RT V r D P) (hB : pk_DB D P) (hF : ∀ p, w p ≤ 1000000000000000) (hc : pk_Cp r V D w 0) (h22 : ∀ i, i < 84 → bk_rI V (r + 22) i = nI 0) (hm : m ≤ 600) : ∃ V', q_X12_plan_50 N Y N V r (nI m) 0 = some (nI (sp_cn D w m), V') ∧ pk_frS r V V' ∧ bk_rI V' r 69 = nI 1 ∧ ∀ i, i < 84 → bk_rI V' (r + 22) i = nI (sp_pln D w m i) := by
  have b0 := hB.1
  have hlt : ∀ j, sp_next D (sp_rt D w j) < D 0 0 := fun j => sp_next_lt hB
  refine loop_i (σ := bk_Val) (fun fu j V1 => ∃ V', q_X12_plan_50 N Y fu V1 r (nI m) (nI j) = some (nI (sp_cn D w m), V') ∧ pk_frS r V V' ∧ bk_rI V' r 69 = nI 1 ∧ ∀ i, i < 84 → bk_rI V' (r + 22) i = nI (sp_pln D w m i)) (fun j V1 => pk_frS r V V1 ∧ pk_Cp r V1 D w j ∧ ∀ i, i < 84 → bk_rI V1 (r + 22) i = nI (sp_pln D w j i)) m ?_ ?_ N 0 V (by omega) (by omega) ⟨pk_frS.rf, hc, h22⟩
  · intro fu V1 hV
    have h22' : ∀ i, i < 84 → bk_rI (bk_wI V1 r 69 (nI 1)) (r + 22) i = nI (sp_pln D w m i) := fun i hi => by rw [pk_rI_ne (by omega)]; exact hV.2.2 i hi
    refine ⟨bk_wI V1 r 69 (nI 1), ?_, hV.1.tr pk_frS.w69, by rw [pk_rI_same, if_pos rfl], h22'⟩
    rw [q_X12_plan_50, if_pos (nI_le (by omega) (by omega)), pk_ck hS.1, pk_letE]
    exact pr_pl98 (N := N) (V := bk_wI V1 r 69 (nI 1)) hN hS h22' hm
  · intro fu j V1 hj hV ih
    obtain ⟨g1, g2, g3⟩ := hV
    have hT1 := g1.rt hT
    obtain ⟨V3, f1, f2, f2', f3⟩ := pr_nextJ (N := N) hN hS hT1 hB hF g2
    have hl := hlt j
    obtain ⟨nx, hnx⟩ : ∃ nx, nx = sp_next D (sp_rt D w j) := ⟨_, rfl⟩
    rw [← hnx] at f1 hl
    have r22 : ∀ i, i < 84 → bk_rI V3 (r + 22) i = nI (sp_pln D w j i) := fun i hi => by
      rw [← g3 i hi]
      unfold bk_rI
      rw [f2']
    have r22n := r22 nx (by omega)
    have hple := sp_pln_le (D := D) (w := w) (k := j) (i := nx)
    have fs : pk_frS r V1 (bk_wI V3 (r + 22) nx (nI (sp_pln D w j nx + 1))) := (f2.toS f2').tr pk_frS.w22
    obtain ⟨V4, d1, d2, d2', d3⟩ := pr_dipJ (N := N) (V := bk_wI V3 (r + 22) nx (nI (sp_pln D w j nx + 1))) (w := w) (k := j) hN hS (fs.rt hT1) hB hF f3
    rw [← hnx] at d1
    have ih' := ih V4 ⟨(g1.tr fs).tr (d2.toS d2'), d3, fun i hi => by
      have : bk_rI V4 (r + 22) i = bk_rI (bk_wI V3 (r + 22) nx (nI (sp_pln D w j nx + 1))) (r + 22) i := by unfold bk_rI; rw [d2']
      rw [this, pk_rI_same, sp_pln_s, ← hnx]
      by_cases c : i = nx
      · rw [if_pos c, if_pos c.symm, c]
      · rw [if_neg c, if_neg (fun q => c q.symm), Nat.add_zero]
        exact r22 i hi⟩
    rw [q_X12_plan_50]
    simp (disch := omega) only [hS, pk_ckT, pk_bs, pk_letE, pk_bd2E, pk_bd3E, if_true, if_false, eq_self, not_true_eq_false, not_false_eq_true, true_and, and_true, Nat.not_lt_zero, Nat.zero_le, Nat.reduceEqDiff, Nat.reduceLT, Nat.reduceLeDiff, pk_ck, pk_lit, nI_add, pk_mul, nI_clamp, nI_leI, nI_ltI, nI_eq, pk_div, pk_remE, pk_inE, pk_sub, f1, r22n, d1]
    rw [if_neg (by omega)]
    exact ih'
theorem pr_pl25 (hN : 1000 ≤ N) (hS : pk_Rf Y r) (hR : pk_JR r V D P T tl st hs img pl fp r0 r1) (hB : pk_JB D P T tl st hs img) (hm : m ≤ 600) : ∃ V', q_X12_plan_25 N Y N V r (nI m) 0 = some (nI (sp_cn D st.2.2.2 m), V') ∧ pk_frS r V V' ∧ bk_rI V' r 69 = nI 1 ∧ ∀ i, i < 84 → bk_rI V' (r + 22) i = nI (sp_pln D st.2.2.2 m i) := by
  have hF := hB.2.2.1.1.2.2.1
  refine loop_i (σ := bk_Val) (fun fu j V1 => ∃ V', q_X12_plan_25 N Y fu V1 r (nI m) (nI j) = some (nI (sp_cn D st.2.2.2 m), V') ∧ pk_frS r V V' ∧ bk_rI V' r 69 = nI 1 ∧ ∀ i, i < 84 → bk_rI V' (r + 22) i = nI (sp_pln D st.2.2.2 m i)) (fun j V1 => pk_frS r V V1 ∧ V1.2 = V.2 ∧ ∀ i, i < j → bk_rI V1 (r + 22) i = nI 0) 84 ?_ ?_ N 0 V (by omega) (by omega) ⟨pk_frS.rf, rfl, fun i hi => by omega⟩
  · intro fu V1 hV
    obtain ⟨g1, g2, g3⟩ := hV
    obtain ⟨V3, a1, a2, a3, a4⟩ := pr_copyW (N := N) (V := V1) (w := st.2.2.2) hN hS (fun p hp => by
      rw [← hR.2.2.1.2.2.2 p hp]
      unfold bk_rL
      rw [g2])
    have fs : pk_frS r V1 V3 := (pk_frR.L a2 (fun c q1 _ => a3 c q1)).toS a2
    obtain ⟨V4, l1, l2, l3⟩ := pr_pl50 (N := N) (V := V3) (w := st.2.2.2) hN hS ((g1.tr fs).rt hR.1) hB.1 hF a4 (fun i hi => by rw [← g3 i hi]; unfold bk_rI; rw [a2]) hm
    refine ⟨V4, ?_, (g1.tr fs).tr l2, l3⟩
    rw [q_X12_plan_25, if_pos (by decide), pk_ck hS.1, a1, pk_bs]
    exact l1
  · intro fu j V1 hj hV ih
    obtain ⟨g1, g2, g3⟩ := hV
    have ih' := ih (bk_wI V1 (r + 22) j (nI 0)) ⟨g1.tr pk_frS.w22, g2, fun i hi => by
      rw [pk_rI_same]
      by_cases c : i = j
      · rw [if_pos c]
      · rw [if_neg c]
        exact g3 i (by omega)⟩
    rw [q_X12_plan_25]
    simp (disch := omega) only [hS, pk_ckT, pk_bs, pk_letE, pk_bd2E, pk_bd3E, if_true, if_false, eq_self, not_true_eq_false, not_false_eq_true, true_and, and_true, Nat.not_lt_zero, Nat.zero_le, Nat.reduceEqDiff, Nat.reduceLT, Nat.reduceLeDiff, pk_ck, pk_lit, nI_add, pk_mul, nI_clamp, nI_leI, nI_ltI, nI_eq, pk_div, pk_remE, pk_inE, pk_sub]
    rw [if_neg (by omega)]
    exact ih'
theorem st_15 (hN : 20000 ≤ N) (hI : pk_IA z Y V) : bk_st15 N z (z + 58) (z + 86) Y V x1 x2 x3 x4 x5 (pk_IA z) := by
  obtain ⟨t, u, s, D, P, T, tl, st, hs, img, pl, fp, r0, r1, hJ, hR, hB, hC, hRA, hBA⟩ := hI.e
  obtain ⟨hM, hS, hz, hT, hs5, -⟩ := hJ.o
  have hF := hB.2.2.1.1.2.2.1
  rcases pk_ix2 x1 (n := 601) (by omega) with hx | ⟨m, hj, rfl⟩
  · have ho : ¬ (nI 0 ≤ x1 ∧ x1 ≤ nI 600) := pk_out hx (by omega) (by omega)
    refine ⟨.inl 2, ?_, (fun e he => by cases he; rfl), pk_stT hC hRA hBA rfl (k := 1) (by decide) (v := nI 0) (fun Y1 V1 h1 h2 => ⟨_, ?_, pk_frR.rf⟩)⟩
    · simp only [q_X11_plan, pc_isWithin, pk_bs, pk_lit, pc_needA]
      rw [if_neg ho, pk_bdxL]
    · simp only [q_X12_plan, h1, pk_ckT, eq_self, pk_letE, pk_lit, pr_within, pk_bs]
      rw [pr_right h1 pk_w0 (Or.inl rfl), pk_bd2E, if_neg ho, pk_Bf ho, if_pos rfl]
  · have hin : nI 0 ≤ nI m ∧ nI m ≤ nI 600 := pk_inn hj (by omega) rfl
    obtain ⟨Y', V', k, s1, s2, s3⟩ := pc_setOut hN hJ hB
    obtain ⟨hM1, hS1, hn1, hT1, h41⟩ := s3.o
    have hne := s3.1.2.1
    obtain ⟨V2, f1, f2, f3, f4⟩ := pc_fill (N := N) (Y := Y') (V := V') (a := z + 8) (n := 84) (by omega) (by simp only [hM1]) (by omega)
    have fp1 : pk_frP z V' V2 := ⟨fun a _ _ q => f3 a q, fun k _ => by rw [f3 (z + 3) (by omega)], fun a _ _ _ => by rw [f2]⟩
    have hQ2 : pk_Q z V2 D st.2.2.2 k := by
      obtain ⟨q1, q2, q3, q4, q5⟩ := s3.2.2
      refine ⟨?_, fun i hi => ?_, fun i hi => ?_, fun i hi => ?_, fun i hi => ?_⟩
      · rw [← q1]; exact congrFun (f3 (z + 3) (by omega)) 5
      · rw [← q2 i hi]; exact congrFun (f3 (z + 6) (by omega)) i
      · rw [← q3 i hi]; unfold bk_rL; rw [f2]
      · rw [← q4 i hi]; unfold bk_rL; rw [f2]
      · rw [← q5 i hi]; unfold bk_rL; rw [f2]
    obtain ⟨V3, k3, p1, p2, p3, p4, p5⟩ := pc_pl27 (N := N) (m := m) (w := st.2.2.2) hN hM1 h41 hn1 hS1 (fp1.ct hT1 hn1) hB.1 hF hQ2 s3.2.1.2.2 (by omega) f4
    have fP : pk_frP z V' V3 := fp1.tr p2
    obtain ⟨V4, hV4⟩ : ∃ V4, V4 = bk_wI V3 z 11 (nI 1) := ⟨_, rfl⟩
    rw [← hV4] at p1
    have rI : ∀ a, a ≠ z → a ≠ z + 3 → a ≠ z + 6 → a ≠ z + 8 → V4.1 a = V'.1 a := fun a q0 q1 q2 q3 => by rw [hV4, pk_rowI q0]; exact fP.1 a q1 q2 q3
    have rz : ∀ k, k ≠ 11 → bk_rI V4 z k = bk_rI V' z k := fun k q => by rw [hV4]; exact (pk_slot q).trans (congrFun (fP.1 z (by omega) (by omega) (by omega)) k)
    have r3 : ∀ a, a ≠ z → ∀ k, bk_rI V4 a k = bk_rI V3 a k := fun a q k => by rw [hV4, pk_rI_ne q]
    have rL : ∀ a, V4.2 a = V3.2 a := fun a => by rw [hV4]; rfl
    have kp : pk_kp z Y' V' Y' V4 := ⟨Nat.le_refl _, fun a ha => ⟨rfl, rfl, rI a (by have := ha.1; omega) (by have := ha.1; omega) (by have := ha.1; omega) (by have := ha.1; omega), (rL a).trans (fP.2.2 a (by have := ha.1; omega) (by have := ha.1; omega) (by have := ha.1; omega))⟩⟩
    have hJQ : pk_JQ z Y' V4 t u s D P T tl st hs img (some (sp_pln D st.2.2.2 m)) fp r0 r1 k3 := by
      obtain ⟨⟨g1, g2, g3, g4, ⟨g5, g5a⟩, g6, g7, g8, -, ⟨g10, g10a, g10b⟩⟩, ⟨o1, o2, o3⟩, -⟩ := s3
      refine ⟨⟨g1, g2, g3, g4.of (fun a q1 q2 q3 => rI a (by omega) (by omega) (by omega) (by omega)), ⟨(congrFun (rI (z + 1) (by omega) (by omega) (by omega) (by omega)) 1).trans g5, fun j hj => (congrFun (rI (z + 2) (by omega) (by omega) (by omega) (by omega)) j).trans (g5a j hj)⟩, g6.kp kp, (rz 8 (by omega)).trans g7, ?_, ⟨by rw [hV4, pk_rI_same, if_pos rfl], fun i hi => (r3 (z + 8) (by omega) i).trans (p5 i hi)⟩, ⟨(rz 12 (by omega)).trans g10, (rz 13 (by omega)).trans g10a, (rz 14 (by omega)).trans g10b⟩⟩, ⟨(r3 (z + 3) (by omega) 6).trans ((fP.2.1 6 (by omega)).trans o1), o2, p4⟩, (r3 _ (by omega) _).trans p3.1, fun i hi => (r3 _ (by omega) _).trans (p3.2.1 i hi), fun i hi => (congrFun (rL _) i).trans (p3.2.2.1 i hi), fun i hi => (congrFun (rL _) i).trans (p3.2.2.2.1 i hi), fun i hi => (congrFun (rL _) i).trans (p3.2.2.2.2 i hi)⟩
      cases img with
      | none => exact g8
      | some g =>
        obtain ⟨s', i1, i2, i3⟩ := g8
        exact ⟨s', i1, i2.kp kp, (rz 10 (by omega)).trans i3⟩
    have hoff : pk_offR z V' V4 := fun a q1 q2 => ⟨rI a (by omega) (by omega) (by omega) (by omega), (rL a).trans (fP.2.2 a (by omega) (by omega) (by omega))⟩
    have hBB : pk_BA (D, P, T, tl, st, hs, img, some (sp_pln D st.2.2.2 m), fp, r0, r1) := hBA
    refine ⟨.inr (nI (sp_cn D st.2.2.2 m), Y', V4), ?_, (fun e he => by cases he), pk_stC hC hRA hBA (B := (D, P, T, tl, st, hs, img, some (sp_pln D st.2.2.2 m), fp, r0, r1)) ⟨⟨t, u, s, hJQ.jc⟩, s2.tr hoff⟩ hBB rfl (fun Y1 V1 h1 h2 => ?_)⟩
    · simp only [q_X11_plan, pc_isWithin, pk_bs, pk_lit, pc_needA]
      rw [if_pos hin, pk_bdxR]
      simp only [hM, pk_ckT, eq_self, s1, pk_bd2E, hM1, pk_ckT, pk_bs, pk_letE, pk_bd2E, pk_bd3E, if_true, if_false, eq_self, not_true_eq_false, not_false_eq_true, true_and, and_true, Nat.not_lt_zero, Nat.zero_le, Nat.reduceEqDiff, Nat.reduceLT, Nat.reduceLeDiff, pk_ck]
      rw [show q_J7_fill_53178 N Y' V' (z + 8) (nI 0) = some V2 from f1, pk_bs]
      exact p1
    · have h3 : pk_JR (z + 58) (bk_wI V1 (z + 58) 0 (nI 0)) D P T tl st hs img pl fp r0 r1 := pk_JR.w0 h2
      obtain ⟨V5, l1, l2, l3, l4⟩ := pr_pl25 (N := N) (m := m) (by omega) h1 h3 hB (by omega)
      refine ⟨V5, ?_, pk_out0.w0.frS l2, h3.pln l2 ⟨l3, l4⟩⟩
      simp only [q_X12_plan, h1, pk_ckT, eq_self, pk_letE, pk_lit, pr_within, pk_bs]
      rw [pr_right h1 pk_w0 (Or.inl rfl), pk_bd2E, if_pos hin, pk_Bt hin, if_neg (by decide)]
      exact l1
end
