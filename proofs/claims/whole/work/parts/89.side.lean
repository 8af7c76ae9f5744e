/-! ofSide, planned -/
section
variable {N z t u s tl r a b c d k n j h m l p q0 md wa s' i f e gg : Nat} {Y Y' : bk_Lay} {V V' V2 W : bk_Val} {x y x1 x2 x3 x4 x5 : Int32} {w1 w2 : Int64} {D : Nat → Nat → Nat} {P : Nat → List Nat} {T T' w R : Nat → Nat} {st st' g : pk_St} {hs hs' : List pk_St} {img img' : Option (pk_St × List pk_St)} {pl : Option (Nat → Nat)} {fp r0 r1 : Int32} {A B : pk_A}
theorem sp_sum_mn {f g : Nat → Nat} : ∀ {n : Nat}, (∀ i, i < n → f i ≤ g i) → sp_sum f n ≤ sp_sum g n
  | 0, _ => Nat.le_refl _
  | n + 1, h => Nat.add_le_add (sp_sum_mn (fun i hi => h i (by omega))) (h n (by omega))
theorem pc_ofSide (hN : 1000 ≤ N) (hs : bk_sh Y wa = (3, 4 * d)) (hd : d ≤ 84) (he : e < 4) (hw : ∀ p, p < 4 * d → bk_rL V wa p = lN (w p)) : q_X0_totalOfSide N Y V wa (nI e) = some (lN (sp_sum (fun i => w (4 * i + e)) d)) := by
  have h0 : q_X0_totalOfSide N Y V wa (nI e) = q_X0_totalOfSide_5 N Y N V wa (lN (sp_sum (fun i => w (4 * i + e)) 0)) (nI (4 * 0 + e)) := by
    rw [Nat.mul_zero, Nat.zero_add]
    rfl
  rw [h0]
  refine loop_i (σ := Unit) (fun fu i _ => q_X0_totalOfSide_5 N Y fu V wa (lN (sp_sum (fun i => w (4 * i + e)) i)) (nI (4 * i + e)) = some (lN (sp_sum (fun i => w (4 * i + e)) d))) (fun _ _ => True) d ?_ ?_ N 0 () (by omega) (by omega) trivial
  · intro fu _ _
    rw [q_X0_totalOfSide_5]
    simp (disch := omega) only [hs, pk_ckT, pk_bs, pk_letE, pk_bd2E, pk_bd3E, if_true, if_false, eq_self, not_true_eq_false, not_false_eq_true, true_and, and_true, Nat.not_lt_zero, Nat.zero_le, Nat.reduceEqDiff, Nat.reduceLT, Nat.reduceLeDiff, pk_ck, pk_lit, nI_add, pk_mul, nI_clamp, nI_leI, nI_ltI, nI_eq, pk_div, pk_remE, pk_inE, pk_sub]
    rw [if_pos (by omega)]
  · intro fu i _ hi _ ih
    have ih' := ih () trivial
    rw [show 4 * (i + 1) + e = 4 * i + e + 4 by omega] at ih'
    rw [q_X0_totalOfSide_5]
    simp (disch := omega) only [hs, pk_ckT, pk_bs, pk_letE, pk_bd2E, pk_bd3E, if_true, if_false, eq_self, not_true_eq_false, not_false_eq_true, true_and, and_true, Nat.not_lt_zero, Nat.zero_le, Nat.reduceEqDiff, Nat.reduceLT, Nat.reduceLeDiff, pk_ck, pk_lit, nI_add, pk_mul, nI_clamp, nI_leI, nI_ltI, nI_eq, pk_div, pk_remE, pk_inE, pk_sub, hw (4 * i + e) (by omega), lN_add]
    rw [if_neg (by omega)]
    exact ih'
theorem pr_ofSide (hN : 1000 ≤ N) (hS : pk_Rf Y r) (h1 : bk_rI V r 1 = nI d) (hd : d ≤ 84) (he : e < 4) (hw : ∀ p, p < 336 → bk_rL V (r + 15) p = lN (w p)) (ht : q_X12_together N Y V (r + 15) = some (lN b)) (hth : q_X12_thousandths N Y V (lN (sp_sum (fun i => w (4 * i + e)) d)) (lN b) = some x) : q_X12_ofSide_26 N Y N V r (nI e) 0 0 = some (x, V) := by
  refine loop_i (σ := Unit) (fun fu i _ => q_X12_ofSide_26 N Y fu V r (nI e) (lN (sp_sum (fun i => w (4 * i + e)) i)) (nI i) = some (x, V)) (fun _ _ => True) d ?_ ?_ N 0 () (by omega) (by omega) trivial
  · intro fu _ _
    rw [q_X12_ofSide_26]
    simp (disch := omega) only [hS, h1, pk_ckT, pk_bs, pk_letE, pk_bd2E, pk_bd3E, if_true, if_false, eq_self, not_true_eq_false, not_false_eq_true, true_and, and_true, Nat.not_lt_zero, Nat.zero_le, Nat.reduceEqDiff, Nat.reduceLT, Nat.reduceLeDiff, pk_ck, pk_lit, nI_add, pk_mul, nI_clamp, nI_leI, nI_ltI, nI_eq, pk_div, pk_remE, pk_inE, pk_sub, Nat.le_refl, ht, hth]
  · intro fu i _ hi _ ih
    rw [q_X12_ofSide_26]
    simp (disch := omega) only [hS, h1, pk_ckT, pk_bs, pk_letE, pk_bd2E, pk_bd3E, if_true, if_false, eq_self, not_true_eq_false, not_false_eq_true, true_and, and_true, Nat.not_lt_zero, Nat.zero_le, Nat.reduceEqDiff, Nat.reduceLT, Nat.reduceLeDiff, pk_ck, pk_lit, nI_add, pk_mul, nI_clamp, nI_leI, nI_ltI, nI_eq, pk_div, pk_remE, pk_inE, pk_sub, pk_mul, hw (4 * i + e) (by omega), lN_add]
    rw [if_neg (by omega)]
    exact ih () trivial
theorem st_38 (hN : 20000 ≤ N) (hI : pk_IA z Y V) : bk_st38 N z (z + 58) (z + 86) Y V x1 x2 x3 x4 x5 (pk_IA z) := by
  obtain ⟨t, u, s, D, P, T, tl, st, hs, img, pl, fp, r0, r1, hJ, hR, hB, hC, hRA, hBA⟩ := hI.e
  obtain ⟨hM, hS, hz, hT, hs5, -⟩ := hJ.o
  obtain ⟨wa, v1, v2, v3, v4⟩ := hJ.ww
  have b1 := hB.1.1
  have tl' := sp_tot_le hB.1 hB.2.2.1.1
  have ct : q_X0_total N Y V wa = some (lN (sp_tot D st.2.2.2)) := pc_total (by omega) v3 (by omega) v4
  rcases pk_ix2 x1 (n := 4) (by omega) with hx | ⟨j, hj, rfl⟩
  · refine ⟨.inl 1, ?_, (fun e he => by cases he; rfl), pk_stT hC hRA hBA rfl (k := 1) (by decide) (v := nI 0) (fun Y1 V1 h1 h2 => ⟨_, ?_, pk_frR.rf⟩)⟩
    · simp only [q_X11_ofSide, pk_lit, pc_isWithin, pk_bs, pc_needE]
      rw [if_neg (pk_out hx (by omega) (by omega)), pk_bdxL]
    · simp only [q_X12_ofSide, h1, pk_ckT, eq_self, pk_letE, pk_lit, pr_within, pk_bs]
      rw [pr_right h1 pk_w0 (Or.inl rfl), pk_bd2E, if_neg (pk_out hx (by omega) (by omega)), if_pos (pk_Bf (pk_out hx (by omega) (by omega)))]
  · have hle : sp_sum (fun i => st.2.2.2 (4 * i + j)) (D 0 0) ≤ sp_tot D st.2.2.2 := by
      unfold sp_tot
      rw [sp_sum_in]
      refine sp_sum_mn (fun i _ => ?_)
      show st.2.2.2 (4 * i + j) ≤ sp_in st.2.2.2 i
      unfold sp_in
      rcases (by omega : j = 0 ∨ j = 1 ∨ j = 2 ∨ j = 3) with rfl | rfl | rfl | rfl
      · rw [Nat.add_zero]; omega
      · omega
      · omega
      · omega
    refine ⟨.inr (nI (sp_th (sp_sum (fun i => st.2.2.2 (4 * i + j)) (D 0 0)) (sp_tot D st.2.2.2))), ?_, (fun e he => by cases he), pk_stQ hC hRA hBA ⟨hC, pk_offR.rf⟩ rfl (fun Y1 V1 h1 h2 => ⟨_, ?_, pk_frR.rf⟩)⟩
    · simp only [q_X11_ofSide, pk_lit, pc_isWithin, pk_bs, pc_needE]
      rw [if_pos (pk_inn hj (by omega) (by omega)), pk_bdxR]
      simp only [hM, hz, hs5, v1, pk_ckT, pk_bs, pk_letE, pk_bd2E, pk_bd3E, if_true, if_false, eq_self, not_true_eq_false, not_false_eq_true, true_and, and_true, Nat.not_lt_zero, Nat.zero_le, Nat.reduceEqDiff, Nat.reduceLT, Nat.reduceLeDiff, pk_ck, pc_ofSide (N := N) (w := st.2.2.2) (show 1000 ≤ N by omega) v3 (by omega) hj v4, ct]
      rw [pc_th (by omega) hle (by omega), pk_bs]
    · have h3 : pk_JR (z + 58) (bk_wI V1 (z + 58) 0 (nI 0)) D P T tl st hs img pl fp r0 r1 := pk_JR.w0 h2
      have et := pr_together (N := N) (Y := Y1) (b := z + 58 + 15) (by omega) (by simp only [h1]) h3.2.2.1.2.2.2
      rw [sp_tot336 hB.1 hB.2.2.1.1] at et
      have e1 := pr_ofSide (N := N) (by omega) h1 h3.1.1.1 b1.2 hj h3.2.2.1.2.2.2 et (pr_th (by omega) hle (by omega))
      simp only [q_X12_ofSide, h1, pk_ckT, eq_self, pk_letE, pk_lit, pr_within, pk_bs]
      rw [pr_right h1 pk_w0 (Or.inl rfl), pk_bd2E, if_pos (pk_inn hj (by omega) (by omega)), if_neg (by rw [pk_Bt (pk_inn (m := 3) hj (by omega) rfl)]; decide)]
      exact e1
theorem st_16 (hN : 20000 ≤ N) (hI : pk_IA z Y V) : bk_st16 N z (z + 58) (z + 86) Y V x1 x2 x3 x4 x5 (pk_IA z) := by
  obtain ⟨t, u, s, D, P, T, tl, st, hs, img, pl, fp, r0, r1, hJ, hR, hB, hC, hRA, hBA⟩ := hI.e
  obtain ⟨hM, hS, hz, hT, hs5, -⟩ := hJ.o
  have b1 := hB.1.1
  have hP := hJ.2.2.2.2.2.2.2.2.1
  cases pl with
  | none =>
    have hP1 : bk_rI V z 11 = nI 0 := hP
    refine ⟨.inl 1, ?_, (fun e he => by cases he; rfl), pk_stT hC hRA hBA rfl (k := 1) (by decide) (v := nI 0) (fun Y1 V1 h1 h2 => ⟨_, ?_, pk_frR.rf⟩)⟩
    · rw [q_X11_planned, pk_ck hM.1, hP1, if_pos (show nI 0 = (0 : Int32) from rfl), q_X11_planned_19, q_X11_planned_20, pc_needE0, pk_bdxL]
    · have h3 : pk_JR (z + 58) (bk_wI V1 (z + 58) 0 (nI 0)) D P T tl st hs img none fp r0 r1 := pk_JR.w0 h2
      have h4 : bk_rI (bk_wI V1 (z + 58) 0 (nI 0)) (z + 58) 69 = nI 0 := h3.2.2.2.2.2.2.1
      have e9 : q_X12_right N Y1 (bk_wI V1 (z + 58) 0 (nI 0)) (z + 58) (nI 0) (nI 1) = some (nI 0, bk_wI (bk_wI V1 (z + 58) 0 (nI 0)) (z + 58) 0 (nI 1)) := pr_right (c := False) h1 pk_w0 (Or.inl rfl)
      simp only [q_X12_planned, q_X12_planned_25, q_X12_planned_26, h1, pk_ckT, eq_self, pk_letE, pk_lit, h4, if_true, e9, pk_bd2E]
  | some f =>
    obtain ⟨hP1, hP2⟩ : bk_rI V z 11 = nI 1 ∧ ∀ i, i < 84 → bk_rI V (z + 8) i = nI (f i) := hP
    rcases pk_ix2 x1 (n := D 0 0) (by omega) with hx | ⟨j, hj, rfl⟩
    · refine ⟨.inl 1, ?_, (fun e he => by cases he; rfl), pk_stT hC hRA hBA rfl (k := 1) (by decide) (v := nI 0) (fun Y1 V1 h1 h2 => ⟨_, ?_, pk_frR.rf⟩)⟩
      · rw [q_X11_planned, pk_ck hM.1, hP1, if_neg (by decide), pc_isInch hM hz.1 hS hT hB.1, pk_bs, if_pos (show pk_B (nI 0 ≤ x1 ∧ x1 ≤ nI (D 0 0 - 1)) = (0 : Int32) from pk_Bf (pk_out hx (by omega) (by omega))), q_X11_planned_19, q_X11_planned_20, pc_needE0, pk_bdxL]
      · have h3 : pk_JR (z + 58) (bk_wI V1 (z + 58) 0 (nI 0)) D P T tl st hs img (some f) fp r0 r1 := pk_JR.w0 h2
        have h4 : bk_rI (bk_wI V1 (z + 58) 0 (nI 0)) (z + 58) 69 = nI 1 := h3.2.2.2.2.2.2.1.1
        have e9 : q_X12_right N Y1 (bk_wI V1 (z + 58) 0 (nI 0)) (z + 58) (nI 0) (nI 1) = some (nI 0, bk_wI (bk_wI V1 (z + 58) 0 (nI 0)) (z + 58) 0 (nI 1)) := pr_right (c := False) h1 pk_w0 (Or.inl rfl)
        simp only [q_X12_planned, q_X12_planned_25, h1, pk_ckT, eq_self, pk_letE, pk_lit, h4]
        rw [if_neg (by decide), pr_isInchN h1 h3.1.1.1 hx, pk_bs, if_pos (pk_Bf (fun q => q))]
        simp only [q_X12_planned_26, h1, pk_ckT, eq_self, pk_lit, if_true, e9, pk_bd2E]
    · refine ⟨.inr (nI (f j)), ?_, (fun e he => by cases he), pk_stQ hC hRA hBA ⟨hC, pk_offR.rf⟩ rfl (fun Y1 V1 h1 h2 => ⟨_, ?_, pk_frR.rf⟩)⟩
      · rw [q_X11_planned, pk_ck hM.1, hP1, if_neg (by decide), pc_isInch hM hz.1 hS hT hB.1, pk_bs, if_neg (by rw [pk_Bt (pk_inn hj (by omega) (by omega))]; decide), q_X11_planned_20, pc_needE1, pk_bdxR]
        simp (disch := omega) only [hM, pk_ckT, pk_bs, pk_letE, pk_bd2E, pk_bd3E, if_true, if_false, eq_self, not_true_eq_false, not_false_eq_true, true_and, and_true, Nat.not_lt_zero, Nat.zero_le, Nat.reduceEqDiff, Nat.reduceLT, Nat.reduceLeDiff, pk_ck, nI_clamp, pk_inE, hP2 j (by omega)]
      · have h3 : pk_JR (z + 58) (bk_wI V1 (z + 58) 0 (nI 0)) D P T tl st hs img (some f) fp r0 r1 := pk_JR.w0 h2
        have h4 : bk_rI (bk_wI V1 (z + 58) 0 (nI 0)) (z + 58) 69 = nI 1 := h3.2.2.2.2.2.2.1.1
        have h5 : ∀ i, i < 84 → bk_rI (bk_wI V1 (z + 58) 0 (nI 0)) (z + 58 + 22) i = nI (f i) := h3.2.2.2.2.2.2.1.2
        have e9 : q_X12_right N Y1 (bk_wI V1 (z + 58) 0 (nI 0)) (z + 58) (nI 1) (nI 1) = some (nI 1, bk_wI V1 (z + 58) 0 (nI 0)) := pr_right (c := True) h1 pk_w0 (Or.inl rfl)
        simp only [q_X12_planned, h1, pk_ckT, eq_self, pk_letE, pk_lit, h4]
        rw [if_neg (by decide), pr_isInchY h1 h3.1.1.1 b1.2 hj, pk_bs, if_neg (by decide)]
        simp (disch := omega) only [q_X12_planned_26, h1, pk_ckT, pk_bs, pk_letE, pk_bd2E, pk_bd3E, if_true, if_false, eq_self, not_true_eq_false, not_false_eq_true, true_and, and_true, Nat.not_lt_zero, Nat.zero_le, Nat.reduceEqDiff, Nat.reduceLT, Nat.reduceLeDiff, pk_ck, pk_lit, nI_eq, e9, nI_clamp, pk_inE, h5 j (by omega)]
end
