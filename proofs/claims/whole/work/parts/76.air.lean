/-! air, line -/
section
variable {N z t u s tl r a b c d k n j h m l p q0 md wa s' i : Nat} {Y Y' : bk_Lay} {V V' V2 W : bk_Val} {x y x1 x2 x3 x4 x5 : Int32} {w1 w2 : Int64} {D : Nat → Nat → Nat} {P : Nat → List Nat} {T T' w : Nat → Nat} {st st' g : pk_St} {hs hs' : List pk_St} {img img' : Option (pk_St × List pk_St)} {pl : Option (Nat → Nat)} {fp r0 r1 : Int32} {A B : pk_A}
theorem pk_mineG {G : Int64} (hG : (1000000000 : Int64) = G) : lN (100 - D 0 6) * G = lN (sp_mine D) := by
  rw [← hG, pk_G, lN_mul]
  rfl
theorem pk_hungG {G : Int64} (hG : (1000000000 : Int64) = G) : lN (D 0 6) * G = lN (sp_hung D 0) := by
  rw [← hG, pk_G, lN_mul]
  rfl
theorem pc_among (hN : 1000 ≤ N) (hM : pk_Mn Y z) (hz : bk_rR Y z 5 = some t) (hS : pk_Sd Y t) (hT : pk_CT V t D P) (hB : pk_DB D P) : q_X11_holeAmong N Y V z (lN (sp_hung D k)) = some (nI (sp_air D k)) := by
  obtain ⟨c1, -⟩ := hT
  have b6 := hB.2.2.2.2.2.2.1
  have hh := sp_hung_le hB k
  have hm := sp_mine_le (D := D)
  unfold q_X11_holeAmong
  generalize hG : (1000000000 : Int64) = G
  simp (disch := omega) only [hM, hz, hS, pk_ckT, pk_bs, pk_letE, pk_bd2E, pk_bd3E, if_true, if_false, eq_self, not_true_eq_false, not_false_eq_true, true_and, and_true, Nat.not_lt_zero, Nat.zero_le, Nat.reduceEqDiff, Nat.reduceLT, Nat.reduceLeDiff, pk_ck, pk_lit, nI_clamp, pk_inE, c1, pk_sub, nI_l]
  rw [pk_mineG hG, lN_add, pc_th hN (by omega) (by omega), pk_bs, sp_air]
theorem pr_airBy (hN : 1000 ≤ N) (hS : pk_Rf Y r) (hT : pk_RT V r D P) (hB : pk_DB D P) (hk : k ≤ 60) : q_X12_airBy N Y V r (nI k) = some (nI (sp_air D k)) := by
  have b6 := hB.2.2.2.2.2.2.1
  have b7 := hB.2.2.2.2.2.2.2.1
  have L := loop_i (σ := Unit) (fun n i _ => q_X12_airBy_13 N Y n V r (nI k) (lN (sp_hung D i)) (nI i) = some (nI (sp_air D k))) (fun _ _ => True) k ?_ ?_ N 0 () (by omega) (by omega) trivial
  · unfold q_X12_airBy
    generalize hG : (1000000000 : Int64) = G
    simp (disch := omega) only [hS, hT.1, pk_ckT, pk_bs, pk_letE, pk_bd2E, pk_bd3E, if_true, if_false, eq_self, not_true_eq_false, not_false_eq_true, true_and, and_true, Nat.not_lt_zero, Nat.zero_le, Nat.reduceEqDiff, Nat.reduceLT, Nat.reduceLeDiff, pk_ck, nI_l, pk_lit]
    rw [pk_hungG hG]
    exact L
  · intro n _ _
    have hh := sp_hung_le hB k
    have hm := sp_mine_le (D := D)
    have hm2 : 0 < sp_mine D := Nat.mul_pos (by omega) (by rw [sp_Ge]; decide)
    have hne0 := pk_lne0 (b := sp_mine D + sp_hung D k) (by omega) (by omega)
    rw [q_X12_airBy_13]
    generalize hG : (1000000000 : Int64) = G
    simp (disch := omega) only [hS, hT.1, pk_ckT, pk_bs, pk_letE, pk_bd2E, pk_bd3E, if_true, if_false, eq_self, not_true_eq_false, not_false_eq_true, true_and, and_true, Nat.not_lt_zero, Nat.zero_le, Nat.reduceEqDiff, Nat.reduceLT, Nat.reduceLeDiff, pk_ck, nI_leI, Nat.le_refl, pk_lit, pk_sub, nI_l]
    rw [pk_mineG hG, lN_add, pk_ck hne0, show (1000 : Int64) = lN 1000 from rfl, lN_mul, pk_lDiv (by omega) (by omega) (by omega), lN_i]
    unfold sp_air sp_th
    rw [if_neg (by omega), Nat.mul_comm]
  · intro n i _ hi _ ih
    have hh := sp_hung_le hB i
    have e1 : sp_hung D i * D 0 7 / 100 = sp_hung D (i + 1) := rfl
    have := Nat.mul_le_mul hh b7.2
    rw [q_X12_airBy_13]
    simp (disch := omega) only [hS, hT.1, pk_ckT, pk_bs, pk_letE, pk_bd2E, pk_bd3E, if_true, if_false, eq_self, not_true_eq_false, not_false_eq_true, true_and, and_true, Nat.not_lt_zero, Nat.zero_le, Nat.reduceEqDiff, Nat.reduceLT, Nat.reduceLeDiff, pk_ck, nI_leI, pk_lit, nI_l, pk_litL, lN_mul, pk_lDiv, e1, nI_add]
    rw [if_neg (by omega)]
    exact ih () trivial
theorem pc_air (hN : 1000 ≤ N) (hJ : pk_JC z Y V t u s D P T tl st hs img pl fp r0 r1) (hB : pk_DB D P) (hk : k < 61) : q_X11_air N Y V z (nI k) = some (.inr (nI (sp_air D k))) := by
  obtain ⟨hM, hS, hz, hT, hs5, -⟩ := hJ.o
  have b6 := hB.2.2.2.2.2.2.1
  have b7 := hB.2.2.2.2.2.2.2.1
  have c1 := hT.1
  have L := loop_i (σ := Unit) (fun n i _ => q_X11_air_29 N Y n V z (nI k) (lN (sp_hung D i)) (nI i) = some (.inr (nI (sp_air D k)))) (fun _ _ => True) k ?_ ?_ N 0 () (by omega) (by omega) trivial
  · unfold q_X11_air
    generalize hG : (1000000000 : Int64) = G
    simp (disch := omega) only [pc_isWithin, pk_bs, pk_lit, pc_needA, if_pos (pk_inn hk (by omega) (show 60 + 1 = 61 from rfl)), pk_bdxR, hM, hz, hS, pk_ckT, pk_bs, pk_letE, pk_bd2E, pk_bd3E, if_true, if_false, eq_self, not_true_eq_false, not_false_eq_true, true_and, and_true, Nat.not_lt_zero, Nat.zero_le, Nat.reduceEqDiff, Nat.reduceLT, Nat.reduceLeDiff, pk_ck, c1, nI_clamp, pk_inE, nI_l]
    rw [pk_hungG hG]
    exact L
  · intro n _ _
    simp (disch := omega) only [q_X11_air_29, hM, pk_ckT, pk_bs, pk_letE, pk_bd2E, pk_bd3E, if_true, if_false, eq_self, not_true_eq_false, not_false_eq_true, true_and, and_true, Nat.not_lt_zero, Nat.zero_le, Nat.reduceEqDiff, Nat.reduceLT, Nat.reduceLeDiff, pk_ck, nI_leI, Nat.le_refl, pc_among hN hM hz.1 hS hT hB]
  · intro n i _ hi _ ih
    have hh := sp_hung_le hB i
    have e1 : sp_hung D i * D 0 7 / 100 = sp_hung D (i + 1) := rfl
    have := Nat.mul_le_mul hh b7.2
    rw [q_X11_air_29]
    simp (disch := omega) only [hM, hz, hS, pk_ckT, pk_bs, pk_letE, pk_bd2E, pk_bd3E, if_true, if_false, eq_self, not_true_eq_false, not_false_eq_true, true_and, and_true, Nat.not_lt_zero, Nat.zero_le, Nat.reduceEqDiff, Nat.reduceLT, Nat.reduceLeDiff, pk_ck, nI_leI, pk_lit, nI_clamp, pk_inE, c1, nI_l, pk_litL, lN_mul, pk_lDiv, e1, nI_add]
    rw [if_neg (by omega)]
    exact ih () trivial
theorem st_18 (hN : 20000 ≤ N) (hI : pk_IA z Y V) : bk_st18 N z (z + 58) (z + 86) Y V x1 x2 x3 x4 x5 (pk_IA z) := by
  obtain ⟨t, u, s, D, P, T, tl, st, hs, img, pl, fp, r0, r1, hJ, hR, hB, hC, hRA, hBA⟩ := hI.e
  rcases pk_ix2 x1 (n := 61) (by omega) with hx | ⟨j, hj, rfl⟩
  · have q := pk_out (m := 60) hx (by decide) (by decide)
    refine ⟨.inl 2, ?_, (fun e he => by cases he; rfl), pk_stT hC hRA hBA rfl (k := 1) (by decide) (v := nI 0) (fun Y1 V1 h1 h2 => ⟨_, ?_, pk_frR.rf⟩)⟩
    · simp only [q_X11_air, pc_isWithin, pk_bs, pk_lit, pc_needA]
      rw [if_neg q, pk_bdxL]
    · simp only [q_X12_air, h1, pk_ckT, eq_self, pk_letE, pk_lit, pr_within, pk_bs]
      rw [pr_right h1 pk_w0 (Or.inl rfl), pk_bd2E, if_neg q, if_pos (pk_Bf q)]
  · have q := pk_inn (m := 60) hj (by decide) rfl
    refine ⟨.inr (nI (sp_air D j)), pc_air (by omega) hJ hB.1 hj, (fun e he => by cases he), pk_stQ hC hRA hBA ⟨hC, pk_offR.rf⟩ rfl (fun Y1 V1 h1 h2 => ⟨_, ?_, pk_frR.rf⟩)⟩
    have h3 : pk_JR (z + 58) (bk_wI V1 (z + 58) 0 (nI 0)) D P T tl st hs img pl fp r0 r1 := pk_JR.w0 h2
    simp only [q_X12_air, h1, pk_ckT, eq_self, pk_letE, pk_lit, pr_within, pk_bs]
    rw [pr_right h1 pk_w0 (Or.inl rfl), pk_bd2E, if_pos q, pk_Bt q, if_neg (by decide), pr_airBy (by omega) h1 h3.1 hB.1 (by omega), pk_bs]
/-! line -/
def sp_line (D : Nat → Nat → Nat) (o : Nat) : Option Nat := sp_find (fun k => decide (o ≤ sp_air D k)) 0 61
theorem sp_air_le (hB : pk_DB D P) : sp_air D k ≤ 1000 := sp_th_le (by omega)
theorem pc_line (hN : 1000 ≤ N) (hJ : pk_JC z Y V t u s D P T tl st hs img pl fp r0 r1) (hB : pk_DB D P) (hk : k < 1001) : q_X11_line N Y V z (nI k) = some (.inr (pk_on (sp_line D k))) := by
  obtain ⟨hM, hS, hz, hT, hs5, -⟩ := hJ.o
  have b6 := hB.2.2.2.2.2.2.1
  have b7 := hB.2.2.2.2.2.2.2.1
  have c1 := hT.1
  have L := loop_i (σ := Unit) (fun n i _ => q_X11_line_30 N Y n V z (nI k) (lN (sp_hung D i)) (nI i) = some (.inr (pk_on (sp_find (fun j => decide (k ≤ sp_air D j)) i (61 - i))))) (fun _ _ => True) 61 ?_ ?_ N 0 () (by omega) (by omega) trivial
  · unfold q_X11_line
    generalize hG : (1000000000 : Int64) = G
    simp (disch := omega) only [pc_isWithin, pk_bs, pk_lit, pc_needA, if_pos (pk_inn hk (by omega) (show 1000 + 1 = 1001 from rfl)), pk_bdxR, hM, hz, hS, pk_ckT, pk_bs, pk_letE, pk_bd2E, pk_bd3E, if_true, if_false, eq_self, not_true_eq_false, not_false_eq_true, true_and, and_true, Nat.not_lt_zero, Nat.zero_le, Nat.reduceEqDiff, Nat.reduceLT, Nat.reduceLeDiff, pk_ck, c1, nI_clamp, pk_inE, nI_l]
    rw [pk_hungG hG]
    exact L
  · intro n _ _
    simp (disch := omega) only [q_X11_line_30, pk_ckT, pk_bs, pk_letE, pk_bd2E, pk_bd3E, if_true, if_false, eq_self, not_true_eq_false, not_false_eq_true, true_and, and_true, Nat.not_lt_zero, Nat.zero_le, Nat.reduceEqDiff, Nat.reduceLT, Nat.reduceLeDiff, pk_ck, pk_lit, nI_ltI]
    rfl
  · intro n i _ hi _ ih
    have hh := sp_hung_le hB i
    have ha := sp_air_le (k := i) hB
    have e1 : sp_hung D i * D 0 7 / 100 = sp_hung D (i + 1) := rfl
    have := Nat.mul_le_mul hh b7.2
    rw [q_X11_line_30, show 61 - i = (61 - (i + 1)) + 1 by omega, sp_find]
    simp (disch := omega) only [hM, hz, hS, pk_ckT, pk_bs, pk_letE, pk_bd2E, pk_bd3E, if_true, if_false, eq_self, not_true_eq_false, not_false_eq_true, true_and, and_true, Nat.not_lt_zero, Nat.zero_le, Nat.reduceEqDiff, Nat.reduceLT, Nat.reduceLeDiff, pk_ck, pc_among hN hM hz.1 hS hT hB, nI_ltI, pk_lit, nI_clamp, pk_inE, c1, nI_l, pk_litL, lN_mul, pk_lDiv, e1, nI_add]
    rw [if_neg (by omega)]
    by_cases c : sp_air D i < k
    · rw [if_pos c, if_neg (fun q => by have := of_decide_eq_true q; omega)]
      exact ih () trivial
    · rw [if_neg c, if_pos (decide_eq_true (by omega))]
      rfl
theorem pr_line (hN : 1000 ≤ N) (hS : pk_Rf Y r) (hR : pk_JR r V D P T tl st hs img pl fp r0 r1) (hB : pk_DB D P) (hk : k < 1001) : q_X12_line N Y V r (nI k) = some (pk_on (sp_line D k), bk_wI V r 0 (nI 0)) := by
  have h3 := hR.w0 (x := nI 0)
  have q := pk_inn (m := 1000) hk (by decide) rfl
  have L := loop_i (σ := Unit) (fun n i _ => q_X12_line_25 N Y n (bk_wI V r 0 (nI 0)) r (nI k) (nI i) = some (pk_on (sp_find (fun j => decide (k ≤ sp_air D j)) i (61 - i)), bk_wI V r 0 (nI 0))) (fun _ _ => True) 61 ?_ ?_ N 0 () (by omega) (by omega) trivial
  · simp only [q_X12_line, hS, pk_ckT, eq_self, pk_letE, pk_lit, pr_within, pk_bs]
    rw [pr_right hS pk_w0 (Or.inl rfl), pk_bd2E, if_pos q, pk_Bt q, if_neg (by decide)]
    exact L
  · intro n _ _
    simp (disch := omega) only [q_X12_line_25, pk_ckT, pk_bs, pk_letE, pk_bd2E, pk_bd3E, if_true, if_false, eq_self, not_true_eq_false, not_false_eq_true, true_and, and_true, Nat.not_lt_zero, Nat.zero_le, Nat.reduceEqDiff, Nat.reduceLT, Nat.reduceLeDiff, pk_ck, pk_lit, nI_ltI]
    rfl
  · intro n i _ hi _ ih
    have ha := sp_air_le (k := i) hB
    rw [q_X12_line_25, show 61 - i = (61 - (i + 1)) + 1 by omega, sp_find, pr_airBy hN hS h3.1 hB (by omega)]
    simp (disch := omega) only [hS, pk_ckT, pk_bs, pk_letE, pk_bd2E, pk_bd3E, if_true, if_false, eq_self, not_true_eq_false, not_false_eq_true, true_and, and_true, Nat.not_lt_zero, Nat.zero_le, Nat.reduceEqDiff, Nat.reduceLT, Nat.reduceLeDiff, pk_ck, nI_ltI, pk_lit, nI_add]
    rw [if_neg (by omega)]
    by_cases c : sp_air D i < k
    · rw [if_pos c, if_neg (fun q => by have := of_decide_eq_true q; omega)]
      exact ih () trivial
    · rw [if_neg c, if_pos (decide_eq_true (by omega))]
      rfl
theorem st_19 (hN : 20000 ≤ N) (hI : pk_IA z Y V) : bk_st19 N z (z + 58) (z + 86) Y V x1 x2 x3 x4 x5 (pk_IA z) := by
  obtain ⟨t, u, s, D, P, T, tl, st, hs, img, pl, fp, r0, r1, hJ, hR, hB, hC, hRA, hBA⟩ := hI.e
  rcases pk_ix2 x1 (n := 1001) (by omega) with hx | ⟨j, hj, rfl⟩
  · have q := pk_out (m := 1000) hx (by decide) (by decide)
    refine ⟨.inl 2, ?_, (fun e he => by cases he; rfl), pk_stT hC hRA hBA rfl (k := 1) (by decide) (v := nI 0) (fun Y1 V1 h1 h2 => ⟨_, ?_, pk_frR.rf⟩)⟩
    · simp only [q_X11_line, pc_isWithin, pk_bs, pk_lit, pc_needA]
      rw [if_neg q, pk_bdxL]
    · simp only [q_X12_line, h1, pk_ckT, eq_self, pk_letE, pk_lit, pr_within, pk_bs]
      rw [pr_right h1 pk_w0 (Or.inl rfl), pk_bd2E, if_neg q, if_pos (pk_Bf q)]
  · exact ⟨.inr (pk_on (sp_line D j)), pc_line (by omega) hJ hB.1 hj, (fun e he => by cases he), pk_stQ hC hRA hBA ⟨hC, pk_offR.rf⟩ rfl (fun Y1 V1 h1 h2 => ⟨_, pr_line (by omega) h1 h2 hB.1 hj, pk_frR.rf⟩)⟩
end
