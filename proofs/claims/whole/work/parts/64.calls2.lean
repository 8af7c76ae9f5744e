/-! hole, leak, flat, flatIf -/
section
variable {N z t u s tl r a b c d k n j h m l p q0 : Nat} {Y Y' : bk_Lay} {V V' : bk_Val} {x y x1 x2 x3 x4 x5 : Int32} {D : Nat → Nat → Nat} {P : Nat → List Nat} {T : Nat → Nat} {st : pk_St} {hs : List pk_St} {img : Option (pk_St × List pk_St)} {pl : Option (Nat → Nat)} {fp r0 r1 : Int32} {A : pk_A}
def sp_hole (D : Nat → Nat → Nat) (md h j : Nat) : Nat := if j = 0 then D 3 h else if j = 1 then D 4 h else if j = 2 then D 5 h else if j = 3 then D 6 h else md / 2 ^ h % 2
theorem pc_hole (hJ : pk_JC z Y V t u s D P T tl st hs img pl fp r0 r1) (hB : pk_JB D P T tl st hs img) (hh : h < D 2 0) (hj : j < 5) : q_X11_hole N Y V z (nI h) (nI j) = some (.inr (nI (sp_hole D st.2.2.1 h j))) := by
  obtain ⟨hM, hS, hz, hT, hs5, -⟩ := hJ.o
  have hD := hB.1
  have b1 : D 2 0 ≤ 6 := hD.2.2.2.2.2.2.2.2.2.1
  have b2 := (hD.2.2.2.2.2.2.2.2.2.2.1 h hh).2.2.2.2
  have b3 : st.2.2.1 < 64 := hB.2.2.1.1.2.1
  obtain ⟨g1, g2, g3, g4⟩ := hT.2.2.2.1 h hh
  unfold q_X11_hole
  rw [pc_needHoleY hS hM hz.1 hT hD hh, pk_bdxR, pk_letE]
  have : j = 0 ∨ j = 1 ∨ j = 2 ∨ j = 3 ∨ j = 4 := by omega
  rcases this with rfl | rfl | rfl | rfl | rfl
  · simp (disch := omega) only [pk_lit, nI_add, pk_mul, nI_clamp, nI_leI, nI_ltI, nI_eq, pk_div, pk_remE, pk_inE, pk_sub, hM, hz, hS, pk_ckT, pk_bs, pk_letE, pk_bd2E, pk_bd3E, if_true, if_false, eq_self, not_true_eq_false, not_false_eq_true, true_and, and_true, Nat.not_lt_zero, Nat.zero_le, Nat.reduceEqDiff, Nat.reduceLT, Nat.reduceLeDiff, pk_ck, g1, sp_hole]
  · simp (disch := omega) only [pk_lit, nI_add, pk_mul, nI_clamp, nI_leI, nI_ltI, nI_eq, pk_div, pk_remE, pk_inE, pk_sub, hM, hz, hS, pk_ckT, pk_bs, pk_letE, pk_bd2E, pk_bd3E, if_true, if_false, eq_self, not_true_eq_false, not_false_eq_true, true_and, and_true, Nat.not_lt_zero, Nat.zero_le, Nat.reduceEqDiff, Nat.reduceLT, Nat.reduceLeDiff, pk_ck, g2, sp_hole]
  · simp (disch := omega) only [pk_lit, nI_add, pk_mul, nI_clamp, nI_leI, nI_ltI, nI_eq, pk_div, pk_remE, pk_inE, pk_sub, hM, hz, hS, pk_ckT, pk_bs, pk_letE, pk_bd2E, pk_bd3E, if_true, if_false, eq_self, not_true_eq_false, not_false_eq_true, true_and, and_true, Nat.not_lt_zero, Nat.zero_le, Nat.reduceEqDiff, Nat.reduceLT, Nat.reduceLeDiff, pk_ck, g3, sp_hole]
  · simp (disch := omega) only [pk_lit, nI_add, pk_mul, nI_clamp, nI_leI, nI_ltI, nI_eq, pk_div, pk_remE, pk_inE, pk_sub, hM, hz, hS, pk_ckT, pk_bs, pk_letE, pk_bd2E, pk_bd3E, if_true, if_false, eq_self, not_true_eq_false, not_false_eq_true, true_and, and_true, Nat.not_lt_zero, Nat.zero_le, Nat.reduceEqDiff, Nat.reduceLT, Nat.reduceLeDiff, pk_ck, g4, sp_hole, q_X1_isSlow]
    by_cases e : D 6 h = 1
    · rw [if_pos e, pk_bs, if_neg (by decide), e]
    · rw [if_neg e, pk_bs, if_pos rfl, show D 6 h = 0 by omega]
  · simp (disch := omega) only [pk_lit, nI_add, pk_mul, nI_clamp, nI_leI, nI_ltI, nI_eq, pk_div, pk_remE, pk_inE, pk_sub, hM, hz, hS, hs5, pk_ckT, pk_bs, pk_letE, pk_bd2E, pk_bd3E, if_true, if_false, eq_self, not_true_eq_false, not_false_eq_true, true_and, and_true, Nat.not_lt_zero, Nat.zero_le, Nat.reduceEqDiff, Nat.reduceLT, Nat.reduceLeDiff, pk_ck, sp_hole]
    rw [pk_shrE (by omega) (by omega), pk_and1 (by have := Nat.div_le_self st.2.2.1 (2 ^ h); omega)]
theorem pc_holeN (hJ : pk_JC z Y V t u s D P T tl st hs img pl fp r0 r1) (hB : pk_JB D P T tl st hs img) (hx : x < 0 ∨ nI (D 2 0) ≤ x) : q_X11_hole N Y V z x y = some (.inl 1) := by
  obtain ⟨hM, hS, hz, hT, hs5, -⟩ := hJ.o
  unfold q_X11_hole
  rw [pc_needHoleN hS hM hz.1 hT hB.1 hx, pk_bdxL, pk_ck hM.1]
theorem pc_holeW (hJ : pk_JC z Y V t u s D P T tl st hs img pl fp r0 r1) (hB : pk_JB D P T tl st hs img) (hh : h < D 2 0) (hx : y < 0 ∨ nI 5 ≤ y) : q_X11_hole N Y V z (nI h) y = some (.inl 1) := by
  obtain ⟨hM, hS, hz, hT, hs5, -⟩ := hJ.o
  unfold q_X11_hole
  rw [pc_needHoleY hS hM hz.1 hT hB.1 hh, pk_bdxR, pk_ck hM.1, pk_letE]
  simp only [pk_lit]
  rw [if_neg (pk_outne hx (by decide) (by decide)), if_neg (pk_outne hx (by decide) (by decide)), if_neg (pk_outne hx (by decide) (by decide)), if_neg (pk_outne hx (by decide) (by decide)), if_neg (pk_outne hx (by decide) (by decide))]
theorem pk_w0 : bk_rI (bk_wI V r 0 (nI 0)) r 0 = nI 0 := by simp only [pk_rI_same, if_true]
theorem pr_hole (hS : pk_Rf Y r) (hR : pk_JR r V D P T tl st hs img pl fp r0 r1) (hB : pk_JB D P T tl st hs img) (hh : h < D 2 0) (hj : j < 5) : q_X12_hole N Y V r (nI h) (nI j) = some (nI (sp_hole D st.2.2.1 h j), bk_wI V r 0 (nI 0)) := by
  have hD := hB.1
  have b1 : D 2 0 ≤ 6 := hD.2.2.2.2.2.2.2.2.2.1
  have b3 : st.2.2.1 < 64 := hB.2.2.1.1.2.1
  have h60 := hR.2.2.1.2.2.1
  obtain ⟨g1, g2, g3, g4⟩ := hR.1.2.2.1 h hh
  have h9 : bk_rI (bk_wI V r 0 (nI 0)) r 9 = nI (D 2 0) := by simp (disch := omega) only [pk_rI_same, pk_rI_ne, pk_rI_wL, pk_rL_wI, pk_rL_same, pk_rL_ne, pk_ckT, pk_bs, pk_letE, pk_bd2E, pk_bd3E, if_true, if_false, eq_self, not_true_eq_false, not_false_eq_true, true_and, and_true, Nat.not_lt_zero, Nat.zero_le, Nat.reduceEqDiff, Nat.reduceLT, Nat.reduceLeDiff, pk_ck, hR.1.1]
  unfold q_X12_hole
  simp only [hS, pk_ckT, eq_self, pk_letE, pk_lit]
  rw [pr_isHoleY hS pk_w0 h9 b1 hh, pk_bd2E, if_neg (by decide), pr_isWhat hS pk_w0, pk_bd2E, pk_Bt (pk_inn hj (by decide) rfl), if_neg (by decide), if_pos (pk_inn (n := 5) hj (by decide) rfl)]
  have : j = 0 ∨ j = 1 ∨ j = 2 ∨ j = 3 ∨ j = 4 := by omega
  rcases this with rfl | rfl | rfl | rfl | rfl
  · simp (disch := omega) only [pk_lit, nI_add, pk_mul, nI_clamp, nI_leI, nI_ltI, nI_eq, pk_div, pk_remE, pk_inE, pk_sub, hS, pk_ckT, pk_bs, pk_letE, pk_bd2E, pk_bd3E, if_true, if_false, eq_self, not_true_eq_false, not_false_eq_true, true_and, and_true, Nat.not_lt_zero, Nat.zero_le, Nat.reduceEqDiff, Nat.reduceLT, Nat.reduceLeDiff, pk_ck, pk_rI_same, pk_rI_ne, pk_rI_wL, pk_rL_wI, pk_rL_same, pk_rL_ne, g1, sp_hole, Nat.add_zero]
  · simp (disch := omega) only [pk_lit, nI_add, pk_mul, nI_clamp, nI_leI, nI_ltI, nI_eq, pk_div, pk_remE, pk_inE, pk_sub, hS, pk_ckT, pk_bs, pk_letE, pk_bd2E, pk_bd3E, if_true, if_false, eq_self, not_true_eq_false, not_false_eq_true, true_and, and_true, Nat.not_lt_zero, Nat.zero_le, Nat.reduceEqDiff, Nat.reduceLT, Nat.reduceLeDiff, pk_ck, pk_rI_same, pk_rI_ne, pk_rI_wL, pk_rL_wI, pk_rL_same, pk_rL_ne, g2, sp_hole]
  · simp (disch := omega) only [pk_lit, nI_add, pk_mul, nI_clamp, nI_leI, nI_ltI, nI_eq, pk_div, pk_remE, pk_inE, pk_sub, hS, pk_ckT, pk_bs, pk_letE, pk_bd2E, pk_bd3E, if_true, if_false, eq_self, not_true_eq_false, not_false_eq_true, true_and, and_true, Nat.not_lt_zero, Nat.zero_le, Nat.reduceEqDiff, Nat.reduceLT, Nat.reduceLeDiff, pk_ck, pk_rI_same, pk_rI_ne, pk_rI_wL, pk_rL_wI, pk_rL_same, pk_rL_ne, g3, sp_hole]
  · simp (disch := omega) only [pk_lit, nI_add, pk_mul, nI_clamp, nI_leI, nI_ltI, nI_eq, pk_div, pk_remE, pk_inE, pk_sub, hS, pk_ckT, pk_bs, pk_letE, pk_bd2E, pk_bd3E, if_true, if_false, eq_self, not_true_eq_false, not_false_eq_true, true_and, and_true, Nat.not_lt_zero, Nat.zero_le, Nat.reduceEqDiff, Nat.reduceLT, Nat.reduceLeDiff, pk_ck, pk_rI_same, pk_rI_ne, pk_rI_wL, pk_rL_wI, pk_rL_same, pk_rL_ne, g4, sp_hole]
  · simp (disch := omega) only [pk_lit, nI_add, pk_mul, nI_clamp, nI_leI, nI_ltI, nI_eq, pk_div, pk_remE, pk_inE, pk_sub, hS, pk_ckT, pk_bs, pk_letE, pk_bd2E, pk_bd3E, if_true, if_false, eq_self, not_true_eq_false, not_false_eq_true, true_and, and_true, Nat.not_lt_zero, Nat.zero_le, Nat.reduceEqDiff, Nat.reduceLT, Nat.reduceLeDiff, pk_ck, pk_rI_same, pk_rI_ne, pk_rI_wL, pk_rL_wI, pk_rL_same, pk_rL_ne, h60, sp_hole]
    rw [pk_shrE (by omega) (by omega), pk_and1 (by have := Nat.div_le_self st.2.2.1 (2 ^ h); omega)]
theorem pr_holeN (hS : pk_Rf Y r) (hR : pk_JR r V D P T tl st hs img pl fp r0 r1) (hB : pk_JB D P T tl st hs img) (hx : x < 0 ∨ nI (D 2 0) ≤ x) : q_X12_hole N Y V r x y = some (nI 0, bk_wI (bk_wI V r 0 (nI 0)) r 0 (nI 1)) := by
  have b1 : D 2 0 ≤ 6 := hB.1.2.2.2.2.2.2.2.2.2.1
  have h9 : bk_rI (bk_wI V r 0 (nI 0)) r 9 = nI (D 2 0) := by simp (disch := omega) only [pk_rI_same, pk_rI_ne, pk_rI_wL, pk_rL_wI, pk_rL_same, pk_rL_ne, pk_ckT, pk_bs, pk_letE, pk_bd2E, pk_bd3E, if_true, if_false, eq_self, not_true_eq_false, not_false_eq_true, true_and, and_true, Nat.not_lt_zero, Nat.zero_le, Nat.reduceEqDiff, Nat.reduceLT, Nat.reduceLeDiff, pk_ck, hR.1.1]
  unfold q_X12_hole
  simp only [hS, pk_ckT, eq_self, pk_letE, pk_lit]
  rw [pr_isHoleN hS pk_w0 h9 b1 hx, pk_bd2E, if_pos rfl]
theorem pr_holeW (hS : pk_Rf Y r) (hR : pk_JR r V D P T tl st hs img pl fp r0 r1) (hB : pk_JB D P T tl st hs img) (hh : h < D 2 0) (hx : y < 0 ∨ nI 5 ≤ y) : q_X12_hole N Y V r (nI h) y = some (nI 0, bk_wI (bk_wI V r 0 (nI 0)) r 0 (nI 1)) := by
  have b1 : D 2 0 ≤ 6 := hB.1.2.2.2.2.2.2.2.2.2.1
  have h9 : bk_rI (bk_wI V r 0 (nI 0)) r 9 = nI (D 2 0) := by simp (disch := omega) only [pk_rI_same, pk_rI_ne, pk_rI_wL, pk_rL_wI, pk_rL_same, pk_rL_ne, pk_ckT, pk_bs, pk_letE, pk_bd2E, pk_bd3E, if_true, if_false, eq_self, not_true_eq_false, not_false_eq_true, true_and, and_true, Nat.not_lt_zero, Nat.zero_le, Nat.reduceEqDiff, Nat.reduceLT, Nat.reduceLeDiff, pk_ck, hR.1.1]
  have q := pk_out (m := 4) hx (by decide) (by decide)
  unfold q_X12_hole
  simp only [hS, pk_ckT, eq_self, pk_letE, pk_lit]
  rw [pr_isHoleY hS pk_w0 h9 b1 hh, pk_bd2E, if_neg (by decide), pr_isWhat hS pk_w0, pk_bd2E, pk_Bf q, if_pos rfl, if_neg q]
theorem st_4 (hI : pk_IA z Y V) : bk_st4 N z (z + 58) (z + 86) Y V x1 x2 x3 x4 x5 (pk_IA z) := by
  obtain ⟨t, u, s, D, P, T, tl, st, hs, img, pl, fp, r0, r1, hJ, hR, hB, hC, hRA, hBA⟩ := hI.e
  have b1 : D 2 0 ≤ 6 := hB.1.2.2.2.2.2.2.2.2.2.1
  rcases pk_ix x1 (n := D 2 0) (by omega) with hx | hx | ⟨h, hh, rfl⟩
  · exact ⟨.inl 1, pc_holeN hJ hB (Or.inl hx), (fun e he => by cases he; rfl), pk_stT hC hRA hBA rfl (by decide) (fun Y1 V1 h1 h2 => ⟨_, pr_holeN h1 h2 hB (Or.inl hx), pk_frR.rf⟩)⟩
  · exact ⟨.inl 1, pc_holeN hJ hB (Or.inr hx), (fun e he => by cases he; rfl), pk_stT hC hRA hBA rfl (by decide) (fun Y1 V1 h1 h2 => ⟨_, pr_holeN h1 h2 hB (Or.inr hx), pk_frR.rf⟩)⟩
  · rcases pk_ix x2 (n := 5) (by omega) with hx | hx | ⟨j, hj, rfl⟩
    · exact ⟨.inl 1, pc_holeW hJ hB hh (Or.inl hx), (fun e he => by cases he; rfl), pk_stT hC hRA hBA rfl (by decide) (fun Y1 V1 h1 h2 => ⟨_, pr_holeW h1 h2 hB hh (Or.inl hx), pk_frR.rf⟩)⟩
    · exact ⟨.inl 1, pc_holeW hJ hB hh (Or.inr hx), (fun e he => by cases he; rfl), pk_stT hC hRA hBA rfl (by decide) (fun Y1 V1 h1 h2 => ⟨_, pr_holeW h1 h2 hB hh (Or.inr hx), pk_frR.rf⟩)⟩
    · exact ⟨.inr (nI (sp_hole D st.2.2.1 h j)), pc_hole hJ hB hh hj, (fun e he => by cases he), pk_stQ hC hRA hBA ⟨hC, pk_offR.rf⟩ rfl (fun Y1 V1 h1 h2 => ⟨_, pr_hole h1 h2 hB hh hj, pk_frR.rf⟩)⟩
/-! the load -/
def sp_l (x : Int32) : Nat := if x = 0 then 0 else 1
theorem sp_l_lt : sp_l x < 2 := by unfold sp_l; split <;> omega
theorem pk_bl : bk_b x = nI (sp_l x) := pk_b0
theorem pk_JR.w0 (hR : pk_JR r V D P T tl st hs img pl fp r0 r1) : pk_JR r (bk_wI V r 0 x) D P T tl st hs img pl fp r0 r1 := pk_RA.fr (A := (D, P, T, tl, st, hs, img, pl, fp, r0, r1)) hR pk_frR.rf
theorem pc_lk (hN : 1000 ≤ N) (hJ : pk_JC z Y V t u s D P T tl st hs img pl fp r0 r1) (hB : pk_JB D P T tl st hs img) (hl : l < 2) : q_X11_leakingHoles N Y V z (nI l) = some (nI (sp_lk D st.2.2.1 l)) := by
  obtain ⟨hM, hS, hz, hT, hs5, -⟩ := hJ.o
  exact pc_leaking hN hM.1 hz.1 hz.2.2 hs5.1 hS hT hB.1 hs5.2.2.2 hB.2.2.1.1.2.1 hl
theorem pr_lk (hN : 1000 ≤ N) (hS : pk_Rf Y r) (hR : pk_JR r V D P T tl st hs img pl fp r0 r1) (hB : pk_JB D P T tl st hs img) (hl : l < 2) : q_X12_leakers N Y V r (nI l) = some (nI (sp_lk D st.2.2.1 l)) := pr_leakers hN hS hR.1 hB.1 hR.2.2.1.2.2.1 hB.2.2.1.1.2.1 hl
theorem st_5 (hN : 20000 ≤ N) (hI : pk_IA z Y V) : bk_st5 N z (z + 58) (z + 86) Y V x1 x2 x3 x4 x5 (pk_IA z) := by
  obtain ⟨t, u, s, D, P, T, tl, st, hs, img, pl, fp, r0, r1, hJ, hR, hB, hC, hRA, hBA⟩ := hI.e
  obtain ⟨hM, hS, hz, hT, hs5, -⟩ := hJ.o
  have hl := sp_l_lt (x := x1)
  have hlk := sp_lk_lt (md := st.2.2.1) (l := sp_l x1) hB.1
  unfold bk_st5
  rw [pk_bl]
  obtain ⟨V1, e1, f1⟩ := pc_goneBy (N := N) (s := sp_lk D st.2.2.1 (sp_l x1)) (p := st.1) (m := st.2.1) (by omega) hS hT hB.1 (by omega) hB.2.2.1.1.1 hl
  have hC1 := pk_CA.fr hJ f1
  have hRA1 := hRA.off hC1.2
  have hRf := hC1.1.rf.1
  obtain ⟨V2, e2, f2⟩ := pr_goneBy (N := N) (V := bk_wI V1 (z + 58) 0 (nI 0)) (s := sp_lk D st.2.2.1 (sp_l x1)) (p := st.1) (m := st.2.1) (by omega) hRf (pk_JR.w0 hRA1).1 hB.1 (by omega) hB.2.2.1.1.1 hl
  refine ⟨nI (sp_gone D P (sp_lk D st.2.2.1 (sp_l x1)) st.1 st.2.1 (sp_l x1)), V1, ?_, hRf.1, _, V2, ?_, rfl, (pk_RO.fr hRA1 f2).I hC1.1 hBA⟩
  · simp only [q_X11_leak, hM, hz, hS, hs5, pk_ckT, eq_self, pk_bs, pc_lk (show 1000 ≤ N by omega) hJ hB hl, e1, pk_bd2E]
  · have h3 : pk_JR (z + 58) (bk_wI V1 (z + 58) 0 (nI 0)) D P T tl st hs img pl fp r0 r1 := pk_JR.w0 hRA1
    simp only [q_X12_leak, hRf, pk_ckT, eq_self, pk_bs, pk_letE, pk_lit, pr_lk (show 1000 ≤ N by omega) hRf h3 hB hl, h3.2.2.1.1, h3.2.2.1.2.1, e2, pk_bd2E]
end
