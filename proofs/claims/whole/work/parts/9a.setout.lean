/-! the class's route goes on, sets out -/
def pk_JQ (z : Nat) (Y : bk_Lay) (V : bk_Val) (t u s : Nat) (D : Nat → Nat → Nat) (P : Nat → List Nat) (T : Nat → Nat) (tl : Nat) (st : pk_St) (hs : List pk_St) (img : Option (pk_St × List pk_St)) (pl : Option (Nat → Nat)) (fp r0 r1 : Int32) (k : Nat) : Prop := pk_J0 z Y V t u s D P T tl st hs img pl fp r0 r1 ∧ (bk_rI V (z + 3) 6 = nI 1 ∧ bk_rR Y (z + 3) 4 = some t ∧ k ≤ 600) ∧ pk_Q z V D st.2.2.2 k
section
variable {N z t u s tl r a b c d k n j h m l p q q0 md wa s' i f e gg v : Nat} {Y Y' : bk_Lay} {V V' V2 W : bk_Val} {x y x1 x2 x3 x4 x5 : Int32} {w1 w2 : Int64} {D : Nat → Nat → Nat} {P : Nat → List Nat} {T T' w R G : Nat → Nat} {st st' g : pk_St} {hs hs' : List pk_St} {img img' : Option (pk_St × List pk_St)} {pl : Option (Nat → Nat)} {fp r0 r1 : Int32} {A B : pk_A}
theorem pk_frQ.rf : pk_frQ z V V := ⟨fun _ _ _ => rfl, fun _ _ => rfl, fun _ _ _ _ => rfl⟩
theorem pk_frQ.tr (h : pk_frQ z V V') (h2 : pk_frQ z V' V2) : pk_frQ z V V2 := ⟨fun a x y => (h2.1 a x y).trans (h.1 a x y), fun k x => (h2.2.1 k x).trans (h.2.1 k x), fun a x y w => (h2.2.2 a x y w).trans (h.2.2 a x y w)⟩
theorem pk_frQ.w6 : pk_frQ z V (bk_wI V (z + 6) k x) := ⟨fun _ _ q => pk_rowI q, fun _ _ => by rw [pk_rowI (by omega)], fun _ _ _ _ => rfl⟩
theorem pk_frQ.w5 : pk_frQ z V (bk_wI V (z + 3) 5 x) := ⟨fun _ q _ => pk_rowI q, fun _ q => pk_slot q, fun _ _ _ _ => rfl⟩
theorem pk_frQ.w7 : pk_frQ z V (bk_wL V (z + 7) k w1) := ⟨fun _ _ _ => rfl, fun _ _ => rfl, fun _ _ _ q => pk_rowL q⟩
theorem pk_frQ.L (e1 : V'.1 = V.1) (e2 : ∀ c, c ≠ z + 4 → c ≠ z + 5 → V'.2 c = V.2 c) : pk_frQ z V V' := ⟨fun a _ _ => by rw [e1], fun k _ => by rw [e1], fun a q1 q2 _ => e2 a q1 q2⟩
theorem pk_frQ.off (h : pk_frQ z V V') : pk_offR z V V' := fun a q1 q2 => ⟨h.1 a (by omega) (by omega), h.2.2 a (by omega) (by omega) (by omega)⟩
theorem pk_J0.frq (h : pk_J0 z Y V t u s D P T tl st hs img pl fp r0 r1) (f : pk_frQ z V V') : pk_J0 z Y V' t u s D P T tl st hs img pl fp r0 r1 :=
  h.of h.1 (fun _ => rfl) ⟨Nat.le_refl _, fun a ha => ⟨rfl, rfl, f.1 a (by have := ha.1; omega) (by have := ha.1; omega), f.2.2 a (by have := ha.1; omega) (by have := ha.1; omega) (by have := ha.1; omega)⟩⟩ (fun a _ _ _ _ _ _ q => f.1 a (by omega) (by omega))
theorem pk_JQ.jc (h : pk_JQ z Y V t u s D P T tl st hs img pl fp r0 r1 k) : pk_JC z Y V t u s D P T tl st hs img pl fp r0 r1 := h.1.jc (Or.inr ⟨h.2.1.1, h.2.1.2.1, k, h.2.1.2.2, h.2.2⟩)
theorem pk_JQ.frq (h : pk_JQ z Y V t u s D P T tl st hs img pl fp r0 r1 k) (f : pk_frQ z V V') (hq : pk_Q z V' D st.2.2.2 n) (hn : n ≤ 600) : pk_JQ z Y V' t u s D P T tl st hs img pl fp r0 r1 n := ⟨h.1.frq f, ⟨(f.2.1 6 (by omega)).trans h.2.1.1, h.2.1.2.1, hn⟩, hq⟩
theorem pk_CT.frq (h : pk_CT V t D P) (hn : t = z + 10 ∨ t = z + 32) (f : pk_frQ z V V') : pk_CT V' t D P := h.of (fun a q1 q2 q3 => f.1 a (by omega) (by omega))
theorem sp_totR_le (hB : pk_DB D P) (hF : ∀ p, w p ≤ 1000000000000000) (k : Nat) : sp_tot D (sp_rt D w k) ≤ 336000000000000000 := by
  have b0 := hB.1
  have b2 := hB.2.2.1
  have h := sp_sum_le (f := sp_rt D w k) (m := 1000000000000000) (n := 4 * D 0 0) (fun p _ => sp_rt_le b2.2 hF k p)
  have h2 : 4 * D 0 0 * 1000000000000000 ≤ 336 * 1000000000000000 := Nat.mul_le_mul_right _ (by omega)
  unfold sp_tot
  omega
theorem pc_goOn13 (hN : 20000 ≤ N) (hM : pk_Mn Y z) (h4 : bk_rR Y (z + 3) 4 = some t) (hn : t = z + 10 ∨ t = z + 32) (hS : pk_Sd Y t) (hT : pk_CT V t D P) (hB : pk_DB D P) (hF : ∀ p, w p ≤ 1000000000000000) (hQ : pk_Q z V D w k) (hk : k ≤ 600) (hm : m ≤ 600) : ∃ V', q_X3_goOn_13 N Y N V (z + 3) (nI m) (nI k) = some V' ∧ pk_frQ z V V' ∧ pk_Q z V' D w (max k m) := by
  have b0 := hB.1
  have b2 := hB.2.2.1
  by_cases c : m ≤ k
  · obtain ⟨N', hN'⟩ : ∃ N', N = N' + 1 := ⟨N - 1, by omega⟩
    refine ⟨V, ?_, pk_frQ.rf, by rw [Nat.max_eq_left c]; exact hQ⟩
    conv => lhs; arg 3; rw [hN']
    rw [q_X3_goOn_13, if_pos (nI_le (by omega) (by omega))]
  rw [Nat.max_eq_right (by omega)]
  refine loop_i (σ := bk_Val) (fun fu j V1 => ∃ V', q_X3_goOn_13 N Y fu V1 (z + 3) (nI m) (nI j) = some V' ∧ pk_frQ z V V' ∧ pk_Q z V' D w m) (fun j V1 => pk_frQ z V V1 ∧ pk_Q z V1 D w j) m ?_ ?_ N k V (by omega) (by omega) ⟨pk_frQ.rf, hQ⟩
  · intro fu V1 hV
    exact ⟨V1, by rw [q_X3_goOn_13, if_pos (nI_le (by omega) (by omega))], hV⟩
  · intro fu j V1 hj hV ih
    obtain ⟨f1, g1, g2, g3, g4, g5⟩ := hV
    have hT1 := hT.frq hn f1
    have hF1 := sp_rt_le (D := D) b2.2 hF j
    have hbe := pc_best3 (N := N) (Y := Y) (V := V1) (w := sp_rt D w j) (by omega) hM h4 hS hT1 hB hF1 g5
    have hnx : sp_next D (sp_rt D w j) < D 0 0 := sp_next_lt hB
    obtain ⟨nx, hnx2⟩ : ∃ nx, nx = sp_next D (sp_rt D w j) := ⟨_, rfl⟩
    rw [← hnx2] at hbe hnx
    have hT2 : pk_CT (bk_wI V1 (z + 6) j (nI nx)) t D P := hT1.frq hn pk_frQ.w6
    obtain ⟨V3, q1, q2, q3, q4, q5⟩ := pc_dipAt (N := N) (Y := Y) (V := bk_wI V1 (z + 6) j (nI nx)) (w := sp_rt D w j) (i := nx) (by omega) hM h4 hS hT2 hB hnx hF1 g4 g5
    have hrt : sp_rt D w (j + 1) = sp_dip D (sp_rt D w j) nx := by rw [hnx2]; rfl
    have ht2 : sp_tot D (sp_dip D (sp_rt D w j) nx) ≤ sp_tot D (sp_rt D w j) := sp_tot_mono (fun p => by
      unfold sp_dip
      split
      · have h2 : sp_rt D w j p * D 0 2 ≤ sp_rt D w j p * 100 := Nat.mul_le_mul_left _ (by omega)
        omega
      · omega) _
    have fq : pk_frQ z V1 V3 := pk_frQ.w6.tr (pk_frQ.L q2 q3)
    have r6 : ∀ i, bk_rI V3 (z + 6) i = if i = j then nI nx else bk_rI V1 (z + 6) i := fun i => by
      have : bk_rI V3 (z + 6) i = bk_rI (bk_wI V1 (z + 6) j (nI nx)) (z + 6) i := by unfold bk_rI; rw [q2]
      rw [this, pk_rI_same]
    have r7 : ∀ i, bk_rL V3 (z + 7) i = bk_rL V1 (z + 7) i := fun i => congrFun (q3 (z + 7) (by omega) (by omega)) i
    have ih' := ih (bk_wI (bk_wL V3 (z + 7) (j + 1) (lN (sp_tot D (sp_dip D (sp_rt D w j) nx)))) (z + 3) 5 (nI (j + 1))) ⟨((f1.tr fq).tr pk_frQ.w7).tr pk_frQ.w5, by rw [pk_rI_same, if_pos rfl], fun i hi => by
        rw [pk_rI_ne (by omega), pk_rI_wL, r6]
        by_cases c : i = j
        · rw [if_pos c, c, hnx2]
        · rw [if_neg c]
          exact g2 i (by omega), fun i hi => by
        rw [pk_rL_wI, pk_rL_same]
        by_cases c : i = j + 1
        · rw [if_pos c, c, hrt]
        · rw [if_neg c, r7]
          exact g3 i (by omega), fun p hp => by
        rw [pk_rL_wI, pk_rL_ne (by omega), hrt]
        exact q4 p hp, fun i hi => by
        rw [pk_rL_wI, pk_rL_ne (by omega), hrt]
        exact q5 i hi⟩
    rw [q_X3_goOn_13]
    simp (disch := omega) only [hM, pk_ckT, pk_bs, pk_letE, pk_bd2E, pk_bd3E, if_true, if_false, eq_self, not_true_eq_false, not_false_eq_true, true_and, and_true, Nat.not_lt_zero, Nat.zero_le, Nat.reduceEqDiff, Nat.reduceLT, Nat.reduceLeDiff, pk_ck, pk_lit, nI_add, pk_mul, nI_clamp, nI_leI, nI_ltI, nI_eq, pk_div, pk_remE, pk_inE, pk_sub, hbe, pk_rI_same, q1, pk_rL_wI, g3 j (Nat.le_refl j)]
    rw [if_neg (by omega), if_neg (by omega), lN_sub (by omega), show sp_tot D (sp_rt D w j) - (sp_tot D (sp_rt D w j) - sp_tot D (sp_dip D (sp_rt D w j) nx)) = sp_tot D (sp_dip D (sp_rt D w j) nx) by omega]
    exact ih'
theorem pk_JQ.o (h : pk_JQ z Y V t u s D P T tl st hs img pl fp r0 r1 k) : pk_Mn Y z ∧ pk_Sd Y t ∧ (t = z + 10 ∨ t = z + 32) ∧ pk_CT V t D P ∧ bk_rR Y (z + 3) 4 = some t := by
  obtain ⟨h1, h2, h3, h4, -⟩ := h.1.sd
  refine ⟨h1, h2, ?_, h4, h.2.1.2.1⟩
  rcases h.1.2.1 with q | q
  · exact Or.inl q.1
  · exact Or.inr q.1
theorem pc_goOn (hN : 20000 ≤ N) (h : pk_JQ z Y V t u s D P T tl st hs img pl fp r0 r1 k) (hB : pk_JB D P T tl st hs img) (hm : m ≤ 600) : ∃ V', q_X3_goOn N Y V (z + 3) (nI m) = some V' ∧ pk_offR z V V' ∧ pk_JQ z Y V' t u s D P T tl st hs img pl fp r0 r1 (max k m) := by
  obtain ⟨hM, hS, hn, hT, h4⟩ := h.o
  have hk := h.2.1.2.2
  obtain ⟨V', e1, e2, e3⟩ := pc_goOn13 (N := N) hN hM h4 hn hS hT hB.1 hB.2.2.1.1.2.2.1 h.2.2 hk hm
  refine ⟨V', ?_, e2.off, h.frq e2 e3 (by omega)⟩
  simp only [q_X3_goOn, hM, pk_ckT, pk_bs, pk_letE, pk_bd2E, pk_bd3E, if_true, if_false, eq_self, not_true_eq_false, not_false_eq_true, true_and, and_true, Nat.not_lt_zero, Nat.zero_le, Nat.reduceEqDiff, Nat.reduceLT, Nat.reduceLeDiff, pk_ck, h4, bk_nl, h.2.2.1]
  exact e1
theorem pc_inchIn (hN : 20000 ≤ N) (h : pk_JQ z Y V t u s D P T tl st hs img pl fp r0 r1 k) (hB : pk_JB D P T tl st hs img) (hi : i < 600) : ∃ V' k', q_X3_inchIn N Y V (z + 3) (nI i) = some (nI (sp_next D (sp_rt D st.2.2.2 i)), V') ∧ pk_offR z V V' ∧ pk_JQ z Y V' t u s D P T tl st hs img pl fp r0 r1 k' := by
  obtain ⟨hM, hS, hn, hT, h4⟩ := h.o
  obtain ⟨V', e1, e2, e3⟩ := pc_goOn (N := N) (m := i + 1) hN h hB (by omega)
  refine ⟨V', _, ?_, e2, e3⟩
  have hr := e3.2.2.2.1 i (by omega)
  simp only [q_X3_inchIn, pc_isWithin, pk_bs, pk_lit, pk_B0]
  rw [if_neg (fun q => q ⟨nI_le (by omega) (by omega), nI_le (by omega) (by omega)⟩)]
  simp (disch := omega) only [hM, pk_ckT, pk_bs, pk_letE, pk_bd2E, pk_bd3E, if_true, if_false, eq_self, not_true_eq_false, not_false_eq_true, true_and, and_true, Nat.not_lt_zero, Nat.zero_le, Nat.reduceEqDiff, Nat.reduceLT, Nat.reduceLeDiff, pk_ck, pk_lit, nI_add, pk_mul, nI_clamp, nI_leI, nI_ltI, nI_eq, pk_div, pk_remE, pk_inE, pk_sub, e1, hr]
theorem pc_behind (hN : 20000 ≤ N) (h : pk_JQ z Y V t u s D P T tl st hs img pl fp r0 r1 k) (hB : pk_JB D P T tl st hs img) (hi : i ≤ 600) : ∃ V' k', q_X3_totalBehind N Y V (z + 3) (nI i) = some (lN (sp_tot D (sp_rt D st.2.2.2 i)), V') ∧ pk_offR z V V' ∧ pk_JQ z Y V' t u s D P T tl st hs img pl fp r0 r1 k' := by
  obtain ⟨hM, hS, hn, hT, h4⟩ := h.o
  obtain ⟨V', e1, e2, e3⟩ := pc_goOn (N := N) (m := i) hN h hB hi
  refine ⟨V', _, ?_, e2, e3⟩
  have hr := e3.2.2.2.2.1 i (by omega)
  simp only [q_X3_totalBehind, pc_isWithin, pk_bs, pk_lit, pk_B0]
  rw [if_neg (fun q => q ⟨nI_le (by omega) (by omega), nI_le (by omega) (by omega)⟩)]
  simp (disch := omega) only [hM, pk_ckT, pk_bs, pk_letE, pk_bd2E, pk_bd3E, if_true, if_false, eq_self, not_true_eq_false, not_false_eq_true, true_and, and_true, Nat.not_lt_zero, Nat.zero_le, Nat.reduceEqDiff, Nat.reduceLT, Nat.reduceLeDiff, pk_ck, pk_lit, nI_add, pk_mul, nI_clamp, nI_leI, nI_ltI, nI_eq, pk_div, pk_remE, pk_inE, pk_sub, e1, hr]
end
