/-! inches; feel, fits -/
section
variable {N z t u s tl r a b c d k n j h m l p q0 md wa s' : Nat} {Y Y' : bk_Lay} {V V' V2 W : bk_Val} {x y x1 x2 x3 x4 x5 : Int32} {D : Nat → Nat → Nat} {P : Nat → List Nat} {T T' w : Nat → Nat} {st st' g : pk_St} {hs hs' : List pk_St} {img img' : Option (pk_St × List pk_St)} {pl : Option (Nat → Nat)} {fp r0 r1 : Int32} {A B : pk_A}
theorem pc_isInch (hM : pk_Mn Y z) (hz : bk_rR Y z 5 = some t) (hS : pk_Sd Y t) (hT : pk_CT V t D P) (hB : pk_DB D P) : q_X11_isInch N Y V z x = some (pk_B (nI 0 ≤ x ∧ x ≤ nI (D 0 0 - 1))) := by
  have b1 := hB.1
  unfold q_X11_isInch
  simp (disch := omega) only [hM, hz, hS, pk_ckT, eq_self, pk_bs, pc_inches hS hT, pk_lit, pk_sub, pc_isWithin]
  have e : pk_B (nI 0 ≤ x ∧ x ≤ nI (D 0 0 - 1)) = nI 0 ∨ pk_B (nI 0 ≤ x ∧ x ≤ nI (D 0 0 - 1)) = nI 1 := by
    by_cases q : nI 0 ≤ x ∧ x ≤ nI (D 0 0 - 1)
    · exact Or.inr (pk_Bt q)
    · exact Or.inl (pk_Bf q)
  first
    | rfl
    | rw [pk_ck e]
theorem pr_isInchY (hS : pk_Rf Y r) (h1 : bk_rI V r 1 = nI n) (hn : n ≤ 84) (hj : j < n) : q_X12_isInch N Y V r (nI j) = some (pk_B True) := by
  unfold q_X12_isInch
  simp (disch := omega) only [hS, h1, pk_ckT, eq_self, pk_lit, nI_ltI, nI_leI]
  rw [if_neg (by omega), if_neg (by omega)]
  rfl
theorem pr_isInchN (hS : pk_Rf Y r) (h1 : bk_rI V r 1 = nI n) (hx : x < 0 ∨ nI n ≤ x) : q_X12_isInch N Y V r x = some (pk_B False) := by
  unfold q_X12_isInch
  by_cases c : x < 0
  · rw [if_pos c]; rfl
  · rw [if_neg c, pk_ck hS.1, h1, if_pos (hx.resolve_left c)]; rfl
def sp_f1 (D : Nat → Nat → Nat) (i : Nat) : Nat := (D 0 5 + i) % D 0 0
def sp_f2 (D : Nat → Nat → Nat) (i : Nat) : Nat := (D 0 5 + D 0 0 - i) % D 0 0
def sp_feel (D : Nat → Nat → Nat) (i : Nat) : Nat := 100 * min (sp_f1 D i) (sp_f2 D i) + max (sp_f1 D i) (sp_f2 D i)
theorem sp_f1_lt (hB : pk_DB D P) : sp_f1 D j < D 0 0 := Nat.mod_lt _ (by have := hB.1; omega)
theorem sp_f2_lt (hB : pk_DB D P) : sp_f2 D j < D 0 0 := Nat.mod_lt _ (by have := hB.1; omega)
theorem pc_f1 (hS : pk_Sd Y t) (hT : pk_CT V t D P) (hB : pk_DB D P) (hj : j < D 0 0) : q_X5_round N Y V t (nI (D 0 5 + j)) = some (nI (sp_f1 D j)) := by
  have b1 := hB.1
  have b5 := hB.2.2.2.2.2.1
  rw [pc_round hS hT hB (by omega)]
  rfl
theorem pc_f2 (hS : pk_Sd Y t) (hT : pk_CT V t D P) (hB : pk_DB D P) (hj : j < D 0 0) : q_X5_round N Y V t (nI (D 0 5) - nI j) = some (nI (sp_f2 D j)) := by
  have b1 := hB.1
  have b5 := hB.2.2.2.2.2.1
  rw [pc_roundS hS hT hB (by omega) hj]
  rfl
theorem pr_feels (hS : pk_Rf Y r) (hT : pk_RT V r D P) (hB : pk_DB D P) (hj : j < D 0 0) : q_X12_feels N Y V r (nI j) = some (nI (sp_feel D j)) := by
  have b1 := hB.1
  have b5 := hB.2.2.2.2.2.1
  have l1 := sp_f1_lt (j := j) hB
  have l2 := sp_f2_lt (j := j) hB
  have hne : ¬ nI (D 0 0) = nI 0 := nI_ne0 (by omega) (by omega)
  have e1 : (D 0 5 + j) % D 0 0 = sp_f1 D j := rfl
  have e2 : (D 0 5 + D 0 0 - j) % D 0 0 = sp_f2 D j := rfl
  simp (disch := first | omega | exact hne) only [q_X12_feels, hS, hT.1, pk_ckT, pk_bs, pk_letE, pk_bd2E, pk_bd3E, if_true, if_false, eq_self, not_true_eq_false, not_false_eq_true, true_and, and_true, Nat.not_lt_zero, Nat.zero_le, Nat.reduceEqDiff, Nat.reduceLT, Nat.reduceLeDiff, pk_ck, pk_lit, nI_add, pk_sub, pk_remE, e1, e2, nI_leI, pk_mul]
  unfold sp_feel
  by_cases c : sp_f2 D j ≤ sp_f1 D j
  · rw [if_pos c, Nat.min_eq_right c, Nat.max_eq_left c]
  · rw [if_neg c, Nat.min_eq_left (by omega), Nat.max_eq_right (by omega)]
theorem st_23 (hN : 20000 ≤ N) (hI : pk_IA z Y V) : bk_st23 N z (z + 58) (z + 86) Y V x1 x2 x3 x4 x5 (pk_IA z) := by
  obtain ⟨t, u, s, D, P, T, tl, st, hs, img, pl, fp, r0, r1, hJ, hR, hB, hC, hRA, hBA⟩ := hI.e
  obtain ⟨hM, hS, hz, hT, hs5, -⟩ := hJ.o
  have b1 := hB.1.1
  rcases pk_ix2 x1 (n := D 0 0) (by omega) with hx | ⟨j, hj, rfl⟩
  · refine ⟨.inl 1, ?_, (fun e he => by cases he; rfl), pk_stT hC hRA hBA rfl (k := 1) (by decide) (v := nI 0) (fun Y1 V1 h1 h2 => ⟨_, ?_, pk_frR.rf⟩)⟩
    · simp only [q_X11_feel, hM, pk_ckT, eq_self, pc_isInch hM hz.1 hS hT hB.1, pk_bs, pc_needE]
      rw [if_neg (pk_out hx (by omega) (by omega)), pk_bdxL]
    · have h3 : pk_JR (z + 58) (bk_wI V1 (z + 58) 0 (nI 0)) D P T tl st hs img pl fp r0 r1 := pk_JR.w0 h2
      simp only [q_X12_feel, h1, pk_ckT, eq_self, pk_letE, pk_lit, pr_isInchN h1 h3.1.1.1 hx, pk_bs]
      rw [pr_right h1 pk_w0 (Or.inl rfl), pk_bd2E, if_neg (fun q => q), if_pos (pk_Bf (fun q => q))]
  · have l1 := sp_f1_lt (j := j) hB.1
    have l2 := sp_f2_lt (j := j) hB.1
    refine ⟨.inr (nI (sp_feel D j)), ?_, (fun e he => by cases he), pk_stQ hC hRA hBA ⟨hC, pk_offR.rf⟩ rfl (fun Y1 V1 h1 h2 => ⟨_, ?_, pk_frR.rf⟩)⟩
    · simp (disch := omega) only [q_X11_feel, hM, hz, hS, pk_ckT, eq_self, pc_isInch hM hz.1 hS hT hB.1, pk_bs, pc_needE, if_pos (pk_inn hj (by omega) (show D 0 0 - 1 + 1 = D 0 0 by omega)), pk_bdxR, pc_mark hS hT, pc_f1 hS hT hB.1 hj, pc_f2 hS hT hB.1 hj, pc_min, pc_max, pk_lit, pk_mul, nI_add]
      rfl
    · have h3 : pk_JR (z + 58) (bk_wI V1 (z + 58) 0 (nI 0)) D P T tl st hs img pl fp r0 r1 := pk_JR.w0 h2
      simp only [q_X12_feel, h1, pk_ckT, eq_self, pk_letE, pk_lit, pr_isInchY h1 h3.1.1.1 b1.2 hj, pk_bs]
      rw [pr_right h1 pk_w0 (Or.inl rfl), pk_bd2E, if_pos trivial, if_neg (by decide), pr_feels h1 h3.1 hB.1 hj]
      rfl
/-! fits -/
def sp_fit (D : Nat → Nat → Nat) (i : Nat) : Nat → Bool := fun h => decide (sp_f1 D (D 3 h) = i ∨ sp_f2 D (D 3 h) = i)
theorem pc_fits (hN : 1000 ≤ N) (hJ : pk_JC z Y V t u s D P T tl st hs img pl fp r0 r1) (hB : pk_JB D P T tl st hs img) (hj : j < D 0 0) : q_X11_fits N Y V z (nI j) = some (.inr (nI (sp_set (sp_fit D j) (D 2 0)))) := by
  obtain ⟨hM, hS, hz, hT, hs5, -⟩ := hJ.o
  have b0 := hB.1.1
  have b1 : D 2 0 ≤ 6 := hB.1.2.2.2.2.2.2.2.2.2.1
  have L := loop_i (σ := Int32) (fun n i v => q_X11_fits_12 N Y n V z (nI j) v (nI i) = some (.inr (nI (sp_set (sp_fit D j) (D 2 0)))))
    (fun i v => v = nI (sp_set (sp_fit D j) i)) (D 2 0) ?_ ?_ N 0 (nI 0) (by omega) (by omega) rfl
  · simp only [q_X11_fits, hM, pk_ckT, eq_self, pc_isInch hM hz.1 hS hT hB.1, pk_bs, pc_needE]
    rw [if_pos (pk_inn hj (by omega) (by omega)), pk_bdxR]
    exact L
  · intro n v hv
    subst hv
    simp (disch := omega) only [q_X11_fits_12, hM, hz, hS, hT.2.2.1, pk_ckT, pk_bs, pk_letE, pk_bd2E, pk_bd3E, if_true, if_false, eq_self, not_true_eq_false, not_false_eq_true, true_and, and_true, Nat.not_lt_zero, Nat.zero_le, Nat.reduceEqDiff, Nat.reduceLT, Nat.reduceLeDiff, pk_ck, pk_lit, nI_add, pk_mul, nI_clamp, nI_leI, nI_ltI, nI_eq, pk_div, pk_remE, pk_inE, pk_sub, Nat.le_refl]
  · intro n i v hi hv ih
    subst hv
    obtain ⟨g1, -, -, -⟩ := hT.2.2.2.1 i hi
    have g2 := (hB.1.2.2.2.2.2.2.2.2.2.2.1 i hi).1
    have l1 := sp_f1_lt (j := D 3 i) hB.1
    have l2 := sp_f2_lt (j := D 3 i) hB.1
    have e3 := sp_set_or (f := sp_fit D j) i
    rw [q_X11_fits_12]
    simp (disch := omega) only [hM, hz, hS, hT.2.2.1, pk_ckT, pk_bs, pk_letE, pk_bd2E, pk_bd3E, if_true, if_false, eq_self, not_true_eq_false, not_false_eq_true, true_and, and_true, Nat.not_lt_zero, Nat.zero_le, Nat.reduceEqDiff, Nat.reduceLT, Nat.reduceLeDiff, pk_ck, pk_lit, nI_leI, nI_clamp, pk_inE, g1, pc_mark hS hT, pc_f1 hS hT hB.1 g2, pc_f2 hS hT hB.1 g2, q_X11_fits_82, q_X11_fits_88, pk_shl1, pk_or, nI_add, nI_eq]
    rw [if_neg (by omega)]
    by_cases c1 : sp_f1 D (D 3 i) = j
    · rw [if_pos c1]
      rw [if_pos (show sp_fit D j i = true from decide_eq_true (Or.inl c1))] at e3
      exact ih _ (by rw [← e3])
    · rw [if_neg c1]
      by_cases c2 : sp_f2 D (D 3 i) = j
      · rw [if_pos c2]
        rw [if_pos (show sp_fit D j i = true from decide_eq_true (Or.inr c2))] at e3
        exact ih _ (by rw [← e3])
      · rw [if_neg c2]
        rw [if_neg (show ¬ sp_fit D j i = true from fun q => (of_decide_eq_true q).elim c1 c2), Nat.or_zero] at e3
        exact ih _ (by rw [← e3])
theorem pr_fits (hN : 1000 ≤ N) (hS : pk_Rf Y r) (hR : pk_JR r V D P T tl st hs img pl fp r0 r1) (hB : pk_JB D P T tl st hs img) (hj : j < D 0 0) : q_X12_fits N Y V r (nI j) = some (nI (sp_set (sp_fit D j) (D 2 0)), bk_wI V r 0 (nI 0)) := by
  have b0 := hB.1.1
  have b1 : D 2 0 ≤ 6 := hB.1.2.2.2.2.2.2.2.2.2.1
  have h3 := hR.w0 (x := nI 0)
  have L := loop_i (σ := Int32) (fun n i v => q_X12_fits_24 N Y n (bk_wI V r 0 (nI 0)) r (nI j) v (nI i) = some (nI (sp_set (sp_fit D j) (D 2 0)), bk_wI V r 0 (nI 0)))
    (fun i v => v = nI (sp_set (sp_fit D j) i)) (D 2 0) ?_ ?_ N 0 (nI 0) (by omega) (by omega) rfl
  · simp only [q_X12_fits, hS, pk_ckT, eq_self, pk_letE, pk_lit, pr_isInchY hS h3.1.1.1 b0.2 hj, pk_bs]
    rw [pr_right hS pk_w0 (Or.inl rfl), pk_bd2E, if_pos trivial, if_neg (by decide)]
    exact L
  · intro n v hv
    subst hv
    simp (disch := omega) only [q_X12_fits_24, hS, h3.1.1, pk_ckT, pk_bs, pk_letE, pk_bd2E, pk_bd3E, if_true, if_false, eq_self, not_true_eq_false, not_false_eq_true, true_and, and_true, Nat.not_lt_zero, Nat.zero_le, Nat.reduceEqDiff, Nat.reduceLT, Nat.reduceLeDiff, pk_ck, pk_lit, nI_add, pk_mul, nI_clamp, nI_leI, nI_ltI, nI_eq, pk_div, pk_remE, pk_inE, pk_sub, Nat.le_refl]
  · intro n i v hi hv ih
    subst hv
    obtain ⟨g1, -, -, -⟩ := h3.1.2.2.1 i hi
    have g2 := (hB.1.2.2.2.2.2.2.2.2.2.2.1 i hi).1
    have l1 := sp_f1_lt (j := D 3 i) hB.1
    have l2 := sp_f2_lt (j := D 3 i) hB.1
    have e3 := sp_set_or (f := sp_fit D j) i
    have d1 : sp_feel D (D 3 i) / 100 = min (sp_f1 D (D 3 i)) (sp_f2 D (D 3 i)) := by unfold sp_feel; omega
    have d2 : sp_feel D (D 3 i) % 100 = max (sp_f1 D (D 3 i)) (sp_f2 D (D 3 i)) := by unfold sp_feel; omega
    have d3 : sp_feel D (D 3 i) < 10000 := by unfold sp_feel; omega
    rw [q_X12_fits_24]
    simp (disch := omega) only [hS, h3.1.1, pk_ckT, pk_bs, pk_letE, pk_bd2E, pk_bd3E, if_true, if_false, eq_self, not_true_eq_false, not_false_eq_true, true_and, and_true, Nat.not_lt_zero, Nat.zero_le, Nat.reduceEqDiff, Nat.reduceLT, Nat.reduceLeDiff, pk_ck, pk_lit, nI_leI, nI_clamp, pk_inE, pk_mul, g1, pr_feels hS h3.1 hB.1 g2, pk_div, pk_remE, d1, d2, q_X12_fits_71, q_X12_fits_78, pk_shl1, pk_or, nI_add, nI_eq, Nat.or_zero]
    rw [if_neg (by omega)]
    have key : sp_fit D j i = true ↔ (min (sp_f1 D (D 3 i)) (sp_f2 D (D 3 i)) = j ∨ max (sp_f1 D (D 3 i)) (sp_f2 D (D 3 i)) = j) := by
      unfold sp_fit
      rw [decide_eq_true_iff]
      omega
    by_cases c1 : min (sp_f1 D (D 3 i)) (sp_f2 D (D 3 i)) = j
    · rw [if_pos c1]
      rw [if_pos (key.mpr (Or.inl c1))] at e3
      exact ih _ (by rw [← e3])
    · rw [if_neg c1]
      by_cases c2 : max (sp_f1 D (D 3 i)) (sp_f2 D (D 3 i)) = j
      · rw [if_pos c2]
        rw [if_pos (key.mpr (Or.inr c2))] at e3
        exact ih _ (by rw [← e3])
      · rw [if_neg c2]
        rw [if_neg (fun q => (key.mp q).elim c1 c2), Nat.or_zero] at e3
        exact ih _ (by rw [← e3])
theorem st_24 (hN : 20000 ≤ N) (hI : pk_IA z Y V) : bk_st24 N z (z + 58) (z + 86) Y V x1 x2 x3 x4 x5 (pk_IA z) := by
  obtain ⟨t, u, s, D, P, T, tl, st, hs, img, pl, fp, r0, r1, hJ, hR, hB, hC, hRA, hBA⟩ := hI.e
  obtain ⟨hM, hS, hz, hT, hs5, -⟩ := hJ.o
  have b1 := hB.1.1
  rcases pk_ix2 x1 (n := D 0 0) (by omega) with hx | ⟨j, hj, rfl⟩
  · refine ⟨.inl 1, ?_, (fun e he => by cases he; rfl), pk_stT hC hRA hBA rfl (k := 1) (by decide) (v := nI 0) (fun Y1 V1 h1 h2 => ⟨_, ?_, pk_frR.rf⟩)⟩
    · simp only [q_X11_fits, hM, pk_ckT, eq_self, pc_isInch hM hz.1 hS hT hB.1, pk_bs, pc_needE]
      rw [if_neg (pk_out hx (by omega) (by omega)), pk_bdxL]
    · have h3 : pk_JR (z + 58) (bk_wI V1 (z + 58) 0 (nI 0)) D P T tl st hs img pl fp r0 r1 := pk_JR.w0 h2
      simp only [q_X12_fits, h1, pk_ckT, eq_self, pk_letE, pk_lit, pr_isInchN h1 h3.1.1.1 hx, pk_bs]
      rw [pr_right h1 pk_w0 (Or.inl rfl), pk_bd2E, if_neg (fun q => q), if_pos (pk_Bf (fun q => q))]
  · exact ⟨.inr (nI (sp_set (sp_fit D j) (D 2 0))), pc_fits (by omega) hJ hB hj, (fun e he => by cases he), pk_stQ hC hRA hBA ⟨hC, pk_offR.rf⟩ rfl (fun Y1 V1 h1 h2 => ⟨_, pr_fits (by omega) h1 h2 hB hj, pk_frR.rf⟩)⟩
end
