/-! weights together; weight, odds, ofInch, planned -/
section
variable {N z t u s tl r a b c d k n j h m l p q0 md wa s' i f e gg : Nat} {Y Y' : bk_Lay} {V V' V2 W : bk_Val} {x y x1 x2 x3 x4 x5 : Int32} {w1 w2 : Int64} {D : Nat → Nat → Nat} {P : Nat → List Nat} {T T' w R : Nat → Nat} {st st' g : pk_St} {hs hs' : List pk_St} {img img' : Option (pk_St × List pk_St)} {pl : Option (Nat → Nat)} {fp r0 r1 : Int32} {A B : pk_A}
theorem sp_sum_in : ∀ d, sp_sum w (4 * d) = sp_sum (sp_in w) d
  | 0 => rfl
  | d + 1 => by
    show sp_sum w (4 * d + 4) = sp_sum (sp_in w) d + sp_in w d
    rw [← sp_sum_in d]
    show sp_sum w (4 * d) + w (4 * d) + w (4 * d + 1) + w (4 * d + 2) + w (4 * d + 3) = _
    unfold sp_in
    omega
theorem sp_sum_0 (h : ∀ q, n ≤ q → w q = 0) : ∀ k, sp_sum w (n + k) = sp_sum w n
  | 0 => rfl
  | k + 1 => by
    show sp_sum w (n + k) + w (n + k) = _
    rw [sp_sum_0 h k, h (n + k) (by omega), Nat.add_zero]
theorem sp_tot336 (hB : pk_DB D P) (hst : pk_SB D st) : sp_sum st.2.2.2 336 = sp_tot D st.2.2.2 := by
  have b0 := hB.1
  have := sp_sum_0 hst.2.2.2 (336 - 4 * D 0 0)
  rw [show 4 * D 0 0 + (336 - 4 * D 0 0) = 336 by omega] at this
  exact this
theorem sp_tot_le (hB : pk_DB D P) (hst : pk_SB D st) : sp_tot D st.2.2.2 ≤ 336000000000000000 := by
  have b0 := hB.1
  have h1 : sp_tot D st.2.2.2 ≤ (4 * D 0 0) * 1000000000000000 := sp_sum_le (fun i _ => hst.2.2.1 i)
  have h2 : (4 * D 0 0) * 1000000000000000 ≤ 336 * 1000000000000000 := Nat.mul_le_mul_right _ (by omega)
  omega
theorem pc_total (hN : 1000 ≤ N) (hs : bk_sh Y wa = (3, n)) (hn : n ≤ 336) (hw : ∀ p, p < n → bk_rL V wa p = lN (w p)) : q_X0_total N Y V wa = some (lN (sp_sum w n)) := by
  refine loop_i (σ := Unit) (fun fu i _ => q_X0_total_4 N Y fu V wa (lN (sp_sum w i)) (nI i) = some (lN (sp_sum w n))) (fun _ _ => True) n ?_ ?_ N 0 () (by omega) (by omega) trivial
  · intro fu _ _
    rw [q_X0_total_4]
    simp (disch := omega) only [hs, pk_ckT, pk_bs, pk_letE, pk_bd2E, pk_bd3E, if_true, if_false, eq_self, not_true_eq_false, not_false_eq_true, true_and, and_true, Nat.not_lt_zero, Nat.zero_le, Nat.reduceEqDiff, Nat.reduceLT, Nat.reduceLeDiff, pk_ck, nI_leI, Nat.le_refl]
  · intro fu i _ hi _ ih
    rw [q_X0_total_4]
    simp (disch := omega) only [hs, pk_ckT, pk_bs, pk_letE, pk_bd2E, pk_bd3E, if_true, if_false, eq_self, not_true_eq_false, not_false_eq_true, true_and, and_true, Nat.not_lt_zero, Nat.zero_le, Nat.reduceEqDiff, Nat.reduceLT, Nat.reduceLeDiff, pk_ck, pk_lit, nI_add, pk_mul, nI_clamp, nI_leI, nI_ltI, nI_eq, pk_div, pk_remE, pk_inE, pk_sub, hw i hi, lN_add]
    rw [if_neg (by omega)]
    exact ih () trivial
theorem pr_together (hN : 1000 ≤ N) (hs : bk_sh Y b = (3, 336)) (hw : ∀ p, p < 336 → bk_rL V b p = lN (w p)) : q_X12_together N Y V b = some (lN (sp_sum w 336)) := by
  refine loop_i (σ := Unit) (fun fu i _ => q_X12_together_4 N Y fu V b (lN (sp_sum w i)) (nI i) = some (lN (sp_sum w 336))) (fun _ _ => True) 336 ?_ ?_ N 0 () (by omega) (by omega) trivial
  · intro fu _ _
    rw [q_X12_together_4, if_pos (by decide)]
  · intro fu i _ hi _ ih
    rw [q_X12_together_4]
    simp (disch := omega) only [hs, pk_ckT, pk_bs, pk_letE, pk_bd2E, pk_bd3E, if_true, if_false, eq_self, not_true_eq_false, not_false_eq_true, true_and, and_true, Nat.not_lt_zero, Nat.zero_le, Nat.reduceEqDiff, Nat.reduceLT, Nat.reduceLeDiff, pk_ck, pk_lit, nI_add, pk_mul, nI_clamp, nI_leI, nI_ltI, nI_eq, pk_div, pk_remE, pk_inE, pk_sub, hw i hi, lN_add]
    rw [if_neg (by omega)]
    exact ih () trivial
theorem pc_ofInch (hN : 1000 ≤ N) (hs : bk_sh Y wa = (3, n)) (hn : n ≤ 336) (hi : 4 * i + 4 ≤ n) (hw : ∀ p, p < 4 * i + 4 → 4 * i ≤ p → bk_rL V wa p = lN (w p)) : q_X0_totalOfInch N Y V wa (nI i) = some (lN (sp_in w i)) := by
  obtain ⟨m, hm⟩ : ∃ m, N = m + 5 := ⟨N - 5, by omega⟩
  have e0 : q_X0_totalOfInch N Y V wa (nI i) = q_X0_totalOfInch_7 N Y (m + 5) V wa (nI i) (lN 0) (nI (4 * i)) := by
    unfold q_X0_totalOfInch
    rw [← hm, ← pk_mul]
    rfl
  have step : ∀ (fu k v : Nat), k < 4 → q_X0_totalOfInch_7 N Y (fu + 1) V wa (nI i) (lN v) (nI (4 * i + k)) = q_X0_totalOfInch_7 N Y fu V wa (nI i) (lN (v + w (4 * i + k))) (nI (4 * i + (k + 1))) := by
    intro fu k v hk
    rw [q_X0_totalOfInch_7]
    simp (disch := omega) only [hs, pk_ckT, pk_bs, pk_letE, pk_bd2E, pk_bd3E, if_true, if_false, eq_self, not_true_eq_false, not_false_eq_true, true_and, and_true, Nat.not_lt_zero, Nat.zero_le, Nat.reduceEqDiff, Nat.reduceLT, Nat.reduceLeDiff, pk_ck, pk_lit, nI_add, pk_mul, nI_clamp, nI_leI, nI_ltI, nI_eq, pk_div, pk_remE, pk_inE, pk_sub, hw (4 * i + k) (by omega) (by omega), lN_add]
    rw [if_neg (by omega), if_neg (by omega), Nat.add_assoc]
  have s0 := step (m + 4) 0 0 (by omega)
  simp only [Nat.add_zero, Nat.zero_add] at s0
  rw [e0, s0, step (m + 3) 1 _ (by omega), step (m + 2) 2 _ (by omega), step (m + 1) 3 _ (by omega), q_X0_totalOfInch_7]
  simp (disch := omega) only [pk_lit, nI_add, pk_mul, nI_clamp, nI_leI, nI_ltI, nI_eq, pk_div, pk_remE, pk_inE, pk_sub]
  rw [if_neg (by omega), if_pos (by omega)]
  rfl
theorem pc_needPlace (hM : pk_Mn Y z) (hz : bk_rR Y z 7 = some s) (h5 : bk_sh Y s = (1, 5)) (hw1 : bk_rR Y s 4 = some wa) (hw2 : bk_sh Y wa = (3, n)) (hn : 0 < n ∧ n ≤ 336) : q_X11_needPlace N Y V z x = if nI 0 ≤ x ∧ x ≤ nI (n - 1) then some (.inr ()) else some (.inl 1) := by
  unfold q_X11_needPlace
  simp (disch := omega) only [hM, hz, h5, hw1, hw2, pk_ckT, pk_bs, pk_letE, pk_bd2E, pk_bd3E, if_true, if_false, eq_self, not_true_eq_false, not_false_eq_true, true_and, and_true, Nat.not_lt_zero, Nat.zero_le, Nat.reduceEqDiff, Nat.reduceLT, Nat.reduceLeDiff, pk_ck, pk_lit, pk_sub, pc_isWithin, pc_needE]
  split <;> rfl
theorem st_12 (hN : 20000 ≤ N) (hI : pk_IA z Y V) : bk_st12 N z (z + 58) (z + 86) Y V x1 x2 x3 x4 x5 (pk_IA z) := by
  obtain ⟨t, u, s, D, P, T, tl, st, hs, img, pl, fp, r0, r1, hJ, hR, hB, hC, hRA, hBA⟩ := hI.e
  obtain ⟨hM, hS, hz, hT, hs5, -⟩ := hJ.o
  obtain ⟨wa, v1, v2, v3, v4⟩ := hJ.ww
  have b0 := hB.1.1
  have np := pc_needPlace (N := N) (V := V) (x := x1) hM hz.2.2 hs5.1 v1 v3 (by omega)
  rcases pk_ix2 x1 (n := 4 * D 0 0) (by omega) with hx | ⟨j, hj, rfl⟩
  · refine ⟨.inl 1, ?_, (fun e he => by cases he; rfl), pk_stT hC hRA hBA rfl (k := 1) (by decide) (v := lN 0) (fun Y1 V1 h1 h2 => ⟨_, ?_, pk_frR.rf⟩)⟩
    · rw [q_X11_weight, pk_ck hM.1, np, if_neg (pk_out hx (by omega) (by omega)), pk_bdxL]
    · have h3 : pk_JR (z + 58) (bk_wI V1 (z + 58) 0 (nI 0)) D P T tl st hs img pl fp r0 r1 := pk_JR.w0 h2
      have e9 : q_X12_right N Y1 (bk_wI V1 (z + 58) 0 (nI 0)) (z + 58) (nI 0) (nI 1) = some (nI 0, bk_wI (bk_wI V1 (z + 58) 0 (nI 0)) (z + 58) 0 (nI 1)) := pr_right (c := False) h1 pk_w0 (Or.inl rfl)
      simp only [q_X12_weight, q_X12_weight_24, q_X12_weight_25, h1, pk_ckT, eq_self, pk_letE, pk_lit, e9, pk_bd2E, if_true, h3.1.1.1, pk_mul, pk_litL]
      by_cases c1 : x1 < nI 0
      · rw [if_pos c1]
      · rw [if_neg c1, if_pos (hx.resolve_left c1)]
  · refine ⟨.inr (lN (st.2.2.2 j)), ?_, (fun e he => by cases he), pk_stQ hC hRA hBA ⟨hC, pk_offR.rf⟩ rfl (fun Y1 V1 h1 h2 => ⟨_, ?_, pk_frR.rf⟩)⟩
    · rw [q_X11_weight, pk_ck hM.1, np, if_pos (pk_inn hj (by omega) (by omega)), pk_bdxR]
      simp (disch := omega) only [hz, hs5, v1, v3, pk_ckT, pk_bs, pk_letE, pk_bd2E, pk_bd3E, if_true, if_false, eq_self, not_true_eq_false, not_false_eq_true, true_and, and_true, Nat.not_lt_zero, Nat.zero_le, Nat.reduceEqDiff, Nat.reduceLT, Nat.reduceLeDiff, pk_ck, nI_clamp, pk_inE, v4 j hj]
    · have h3 : pk_JR (z + 58) (bk_wI V1 (z + 58) 0 (nI 0)) D P T tl st hs img pl fp r0 r1 := pk_JR.w0 h2
      have e9 : q_X12_right N Y1 (bk_wI V1 (z + 58) 0 (nI 0)) (z + 58) (nI 1) (nI 1) = some (nI 1, bk_wI V1 (z + 58) 0 (nI 0)) := pr_right (c := True) h1 pk_w0 (Or.inl rfl)
      have e15 := h3.2.2.1.2.2.2 j (by omega)
      simp (disch := omega) only [q_X12_weight, q_X12_weight_25, h1, pk_ckT, pk_bs, pk_letE, pk_bd2E, pk_bd3E, if_true, if_false, eq_self, not_true_eq_false, not_false_eq_true, true_and, and_true, Nat.not_lt_zero, Nat.zero_le, Nat.reduceEqDiff, Nat.reduceLT, Nat.reduceLeDiff, pk_ck, pk_lit, e9, h3.1.1.1, pk_mul, nI_ltI, nI_leI, nI_eq, nI_clamp, pk_inE, e15]
      rw [if_neg (by omega)]
theorem st_13 (hN : 20000 ≤ N) (hI : pk_IA z Y V) : bk_st13 N z (z + 58) (z + 86) Y V x1 x2 x3 x4 x5 (pk_IA z) := by
  obtain ⟨t, u, s, D, P, T, tl, st, hs, img, pl, fp, r0, r1, hJ, hR, hB, hC, hRA, hBA⟩ := hI.e
  obtain ⟨hM, hS, hz, hT, hs5, -⟩ := hJ.o
  obtain ⟨wa, v1, v2, v3, v4⟩ := hJ.ww
  have b0 := hB.1.1
  have np := pc_needPlace (N := N) (V := V) (x := x1) hM hz.2.2 hs5.1 v1 v3 (by omega)
  have tl' := sp_tot_le hB.1 hB.2.2.1.1
  have ct : q_X0_total N Y V wa = some (lN (sp_tot D st.2.2.2)) := pc_total (by omega) v3 (by omega) v4
  rcases pk_ix2 x1 (n := 4 * D 0 0) (by omega) with hx | ⟨j, hj, rfl⟩
  · refine ⟨.inl 1, ?_, (fun e he => by cases he; rfl), pk_stT hC hRA hBA rfl (k := 1) (by decide) (v := nI 0) (fun Y1 V1 h1 h2 => ⟨_, ?_, pk_frR.rf⟩)⟩
    · rw [q_X11_odds, pk_ck hM.1, np, if_neg (pk_out hx (by omega) (by omega)), pk_bdxL]
    · have h3 : pk_JR (z + 58) (bk_wI V1 (z + 58) 0 (nI 0)) D P T tl st hs img pl fp r0 r1 := pk_JR.w0 h2
      have e9 : q_X12_right N Y1 (bk_wI V1 (z + 58) 0 (nI 0)) (z + 58) (nI 0) (nI 1) = some (nI 0, bk_wI (bk_wI V1 (z + 58) 0 (nI 0)) (z + 58) 0 (nI 1)) := pr_right (c := False) h1 pk_w0 (Or.inl rfl)
      simp only [q_X12_odds, q_X12_odds_24, q_X12_odds_25, h1, pk_ckT, eq_self, pk_letE, pk_lit, e9, pk_bd2E, if_true, h3.1.1.1, pk_mul]
      by_cases c1 : x1 < nI 0
      · rw [if_pos c1]
      · rw [if_neg c1, if_pos (hx.resolve_left c1)]
  · have hle : st.2.2.2 j ≤ sp_tot D st.2.2.2 := sp_sum_ge hj
    refine ⟨.inr (nI (sp_th (st.2.2.2 j) (sp_tot D st.2.2.2))), ?_, (fun e he => by cases he), pk_stQ hC hRA hBA ⟨hC, pk_offR.rf⟩ rfl (fun Y1 V1 h1 h2 => ⟨_, ?_, pk_frR.rf⟩)⟩
    · rw [q_X11_odds, pk_ck hM.1, np, if_pos (pk_inn hj (by omega) (by omega)), pk_bdxR]
      simp (disch := omega) only [hz, hs5, v1, v3, pk_ckT, pk_bs, pk_letE, pk_bd2E, pk_bd3E, if_true, if_false, eq_self, not_true_eq_false, not_false_eq_true, true_and, and_true, Nat.not_lt_zero, Nat.zero_le, Nat.reduceEqDiff, Nat.reduceLT, Nat.reduceLeDiff, pk_ck, nI_clamp, pk_inE, v4 j hj, ct]
      rw [pc_th (by omega) hle (by omega), pk_bs]
    · have h3 : pk_JR (z + 58) (bk_wI V1 (z + 58) 0 (nI 0)) D P T tl st hs img pl fp r0 r1 := pk_JR.w0 h2
      have e9 : q_X12_right N Y1 (bk_wI V1 (z + 58) 0 (nI 0)) (z + 58) (nI 1) (nI 1) = some (nI 1, bk_wI V1 (z + 58) 0 (nI 0)) := pr_right (c := True) h1 pk_w0 (Or.inl rfl)
      have e15 := h3.2.2.1.2.2.2 j (by omega)
      have et := pr_together (N := N) (Y := Y1) (b := z + 58 + 15) (by omega) (by simp only [h1]) h3.2.2.1.2.2.2
      rw [sp_tot336 hB.1 hB.2.2.1.1] at et
      simp (disch := omega) only [q_X12_odds, q_X12_odds_25, h1, pk_ckT, pk_bs, pk_letE, pk_bd2E, pk_bd3E, if_true, if_false, eq_self, not_true_eq_false, not_false_eq_true, true_and, and_true, Nat.not_lt_zero, Nat.zero_le, Nat.reduceEqDiff, Nat.reduceLT, Nat.reduceLeDiff, pk_ck, pk_lit, e9, h3.1.1.1, pk_mul, nI_ltI, nI_leI, nI_eq, nI_clamp, pk_inE, e15, et]
      rw [if_neg (by omega), pr_th (by omega) hle (by omega), pk_bs]
theorem st_37 (hN : 20000 ≤ N) (hI : pk_IA z Y V) : bk_st37 N z (z + 58) (z + 86) Y V x1 x2 x3 x4 x5 (pk_IA z) := by
  obtain ⟨t, u, s, D, P, T, tl, st, hs, img, pl, fp, r0, r1, hJ, hR, hB, hC, hRA, hBA⟩ := hI.e
  obtain ⟨hM, hS, hz, hT, hs5, -⟩ := hJ.o
  obtain ⟨wa, v1, v2, v3, v4⟩ := hJ.ww
  have b1 := hB.1.1
  have tl' := sp_tot_le hB.1 hB.2.2.1.1
  have ct : q_X0_total N Y V wa = some (lN (sp_tot D st.2.2.2)) := pc_total (by omega) v3 (by omega) v4
  rcases pk_ix2 x1 (n := D 0 0) (by omega) with hx | ⟨j, hj, rfl⟩
  · refine ⟨.inl 1, ?_, (fun e he => by cases he; rfl), pk_stT hC hRA hBA rfl (k := 1) (by decide) (v := nI 0) (fun Y1 V1 h1 h2 => ⟨_, ?_, pk_frR.rf⟩)⟩
    · simp only [q_X11_ofInch, hM, pk_ckT, eq_self, pc_isInch hM hz.1 hS hT hB.1, pk_bs, pc_needE]
      rw [if_neg (pk_out hx (by omega) (by omega)), pk_bdxL]
    · have h3 : pk_JR (z + 58) (bk_wI V1 (z + 58) 0 (nI 0)) D P T tl st hs img pl fp r0 r1 := pk_JR.w0 h2
      simp only [q_X12_ofInch, h1, pk_ckT, eq_self, pk_letE, pk_lit, pr_isInchN h1 h3.1.1.1 hx, pk_bs]
      rw [pr_right h1 pk_w0 (Or.inl rfl), pk_bd2E, if_neg (fun q => q), if_pos (pk_Bf (fun q => q))]
  · have hle : sp_in st.2.2.2 j ≤ sp_tot D st.2.2.2 := by
      unfold sp_tot
      rw [sp_sum_in]
      exact sp_sum_ge hj
    refine ⟨.inr (nI (sp_th (sp_in st.2.2.2 j) (sp_tot D st.2.2.2))), ?_, (fun e he => by cases he), pk_stQ hC hRA hBA ⟨hC, pk_offR.rf⟩ rfl (fun Y1 V1 h1 h2 => ⟨_, ?_, pk_frR.rf⟩)⟩
    · simp only [q_X11_ofInch, hM, pk_ckT, eq_self, pc_isInch hM hz.1 hS hT hB.1, pk_bs, pc_needE]
      rw [if_pos (pk_inn hj (by omega) (by omega)), pk_bdxR]
      simp only [hz, hs5, v1, pk_ckT, pk_bs, pk_letE, pk_bd2E, pk_bd3E, if_true, if_false, eq_self, not_true_eq_false, not_false_eq_true, true_and, and_true, Nat.not_lt_zero, Nat.zero_le, Nat.reduceEqDiff, Nat.reduceLT, Nat.reduceLeDiff, pk_ck, pc_ofInch (N := N) (w := st.2.2.2) (show 1000 ≤ N by omega) v3 (by omega) (show 4 * j + 4 ≤ 4 * D 0 0 by omega) (fun p hp _ => v4 p (by omega)), ct]
      rw [pc_th (by omega) hle (by omega), pk_bs]
    · have h3 : pk_JR (z + 58) (bk_wI V1 (z + 58) 0 (nI 0)) D P T tl st hs img pl fp r0 r1 := pk_JR.w0 h2
      have e15 := h3.2.2.1.2.2.2
      have et := pr_together (N := N) (Y := Y1) (b := z + 58 + 15) (by omega) (by simp only [h1]) h3.2.2.1.2.2.2
      rw [sp_tot336 hB.1 hB.2.2.1.1] at et
      simp only [q_X12_ofInch, h1, pk_ckT, eq_self, pk_letE, pk_lit, pr_isInchY h1 h3.1.1.1 b1.2 hj, pk_bs]
      rw [pr_right h1 pk_w0 (Or.inl rfl), pk_bd2E, if_pos trivial, if_neg (by decide)]
      simp (disch := omega) only [pk_ckT, pk_bs, pk_letE, pk_bd2E, pk_bd3E, if_true, if_false, eq_self, not_true_eq_false, not_false_eq_true, true_and, and_true, Nat.not_lt_zero, Nat.zero_le, Nat.reduceEqDiff, Nat.reduceLT, Nat.reduceLeDiff, pk_ck, pk_lit, pk_mul, nI_add, nI_clamp, pk_inE, e15 (4 * j) (by omega), e15 (4 * j + 1) (by omega), e15 (4 * j + 2) (by omega), e15 (4 * j + 3) (by omega), et, lN_add]
      show Option.bind (q_X12_thousandths N Y1 _ (lN (sp_in st.2.2.2 j)) _) _ = _
      rw [pr_th (by omega) hle (by omega), pk_bs]
end
