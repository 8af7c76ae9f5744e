/-! enough, plan -/
def sp_fst (c : Nat → Bool) : Nat → Nat → Option Nat
  | 0, _ => none
  | n + 1, k => if c k then some k else sp_fst c n (k + 1)
def sp_oI (o : Option Nat) : Int32 := match o with
  | none => -nI 1
  | some k => nI k
def sp_pln (D : Nat → Nat → Nat) (w : Nat → Nat) (k i : Nat) : Nat := sp_sum (fun j => if sp_next D (sp_rt D w j) = i then 1 else 0) k
def sp_cn (D : Nat → Nat → Nat) (w : Nat → Nat) (k : Nat) : Nat := sp_sum (fun i => if 0 < sp_pln D w k i then 1 else 0) 84
def pk_frP (z : Nat) (V V' : bk_Val) : Prop := (∀ a, a ≠ z + 3 → a ≠ z + 6 → a ≠ z + 8 → V'.1 a = V.1 a) ∧ (∀ k, k ≠ 5 → V'.1 (z + 3) k = V.1 (z + 3) k) ∧ (∀ a, a ≠ z + 4 → a ≠ z + 5 → a ≠ z + 7 → V'.2 a = V.2 a)
def pk_frS (r : Nat) (V V' : bk_Val) : Prop := (∀ a, a ≠ r → a ≠ r + 22 → V'.1 a = V.1 a) ∧ (∀ k, k ≠ 69 → V'.1 r k = V.1 r k) ∧ (∀ a, a ≠ r + 20 → a ≠ r + 21 → a ≠ r + 23 → V'.2 a = V.2 a)
section
variable {N z t u s tl r a b c d k n j h m l p q q0 md wa s' i f e gg v : Nat} {Y Y' : bk_Lay} {V V' V2 W : bk_Val} {x y x1 x2 x3 x4 x5 : Int32} {w1 w2 : Int64} {D : Nat → Nat → Nat} {P : Nat → List Nat} {T T' w R G : Nat → Nat} {st st' g : pk_St} {hs hs' : List pk_St} {img img' : Option (pk_St × List pk_St)} {pl pl' : Option (Nat → Nat)} {fp r0 r1 : Int32} {A B : pk_A}
theorem pr_tog (hN : 1000 ≤ N) (hS : pk_Rf Y r) (hB : pk_DB D P) (hz : ∀ p, 4 * D 0 0 ≤ p → w p = 0) (hc : pk_Cp r V D w k) : q_X12_together N Y V (r + 20) = some (lN (sp_tot D (sp_rt D w k))) := by
  have b0 := hB.1
  rw [pr_together (w := sp_rt D w k) hN (by simp only [hS]) hc]
  have := sp_sum_0 (w := sp_rt D w k) (n := 4 * D 0 0) (sp_rt_z hz k) (336 - 4 * D 0 0)
  rw [show 4 * D 0 0 + (336 - 4 * D 0 0) = 336 by omega] at this
  rw [this]
  rfl
theorem pc_en34 (hN : 20000 ≤ N) (h : pk_JQ z Y V t u s D P T tl st hs img pl fp r0 r1 k) (hB : pk_JB D P T tl st hs img) (hg : gg ≤ 900000000000000000) : ∃ V' k', q_X11_enough_34 N N Y V z (lN gg) 0 = some (.inr (sp_oI (sp_fst (fun j => decide (sp_tot D (sp_rt D st.2.2.2 j) ≤ gg)) 601 0), Y, V')) ∧ pk_offR z V V' ∧ pk_JQ z Y V' t u s D P T tl st hs img pl fp r0 r1 k' := by
  have hM := h.o.1
  have hF := hB.2.2.1.1.2.2.1
  refine loop_i (σ := bk_Val) (fun fu j V2 => ∃ V' k', q_X11_enough_34 N fu Y V2 z (lN gg) (nI j) = some (.inr (sp_oI (sp_fst (fun j => decide (sp_tot D (sp_rt D st.2.2.2 j) ≤ gg)) (601 - j) j), Y, V')) ∧ pk_offR z V V' ∧ pk_JQ z Y V' t u s D P T tl st hs img pl fp r0 r1 k') (fun j V2 => pk_offR z V V2 ∧ ∃ k', pk_JQ z Y V2 t u s D P T tl st hs img pl fp r0 r1 k') 601 ?_ ?_ N 0 V (by omega) (by omega) ⟨pk_offR.rf, k, h⟩
  · intro fu V2 hV
    obtain ⟨g1, k2, g2⟩ := hV
    exact ⟨V2, k2, by rw [q_X11_enough_34, if_pos (by decide)]; rfl, g1, g2⟩
  · intro fu j V2 hj hV ih
    obtain ⟨g1, k2, g2⟩ := hV
    obtain ⟨V3, k3, f1, f2, f3⟩ := pc_behind (N := N) (i := j) hN g2 hB (by omega)
    have hl := sp_totR_le hB.1 hF j
    rw [q_X11_enough_34]
    simp (disch := omega) only [hM, pk_ckT, pk_bs, pk_letE, pk_bd2E, pk_bd3E, if_true, if_false, eq_self, not_true_eq_false, not_false_eq_true, true_and, and_true, Nat.not_lt_zero, Nat.zero_le, Nat.reduceEqDiff, Nat.reduceLT, Nat.reduceLeDiff, pk_ck, pk_lit, nI_add, pk_mul, nI_clamp, nI_leI, nI_ltI, nI_eq, pk_div, pk_remE, pk_inE, pk_sub, f1, pk_cmpG, pk_lLT]
    rw [if_neg (by omega), show 601 - j = (601 - (j + 1)) + 1 by omega]
    unfold sp_fst
    by_cases c : sp_tot D (sp_rt D st.2.2.2 j) ≤ gg
    · rw [if_neg (by omega), if_pos (decide_eq_true c)]
      exact ⟨V3, k3, rfl, g1.tr f2, f3⟩
    · rw [if_pos (by omega), if_neg (fun q => c (of_decide_eq_true q))]
      exact ih V3 ⟨g1.tr f2, k3, f3⟩
theorem pr_en45 (hN : 1000 ≤ N) (hS : pk_Rf Y r) (hT : pk_RT V r D P) (hB : pk_DB D P) (hF : ∀ p, w p ≤ 1000000000000000) (hz : ∀ p, 4 * D 0 0 ≤ p → w p = 0) (hc : pk_Cp r V D w 0) (hg : gg ≤ 900000000000000000) : ∃ V', q_X12_enough_45 N Y N V r (lN gg) 0 = some (sp_oI (sp_fst (fun j => decide (sp_tot D (sp_rt D w j) ≤ gg)) 601 0), V') ∧ pk_frR r V V' := by
  refine loop_i (σ := bk_Val) (fun fu j V2 => ∃ V', q_X12_enough_45 N Y fu V2 r (lN gg) (nI j) = some (sp_oI (sp_fst (fun j => decide (sp_tot D (sp_rt D w j) ≤ gg)) (601 - j) j), V') ∧ pk_frR r V V') (fun j V2 => pk_frR r V V2 ∧ pk_Cp r V2 D w j) 601 ?_ ?_ N 0 V (by omega) (by omega) ⟨pk_frR.rf, hc⟩
  · intro fu V2 hV
    exact ⟨V2, by rw [q_X12_enough_45, if_pos (by decide)]; rfl, hV.1⟩
  · intro fu j V2 hj hV ih
    obtain ⟨g1, g2⟩ := hV
    obtain ⟨V3, f1, f2, -, f3⟩ := pr_nextJ (N := N) hN hS (hT.fr g1) hB hF g2
    obtain ⟨V4, d1, d2, -, d3⟩ := pr_dipJ (N := N) hN hS ((hT.fr g1).fr f2) hB hF f3
    have ht := pr_tog (N := N) hN hS hB hz g2
    have hl := sp_totR_le hB hF j
    rw [q_X12_enough_45]
    simp (disch := omega) only [hS, pk_ckT, pk_bs, pk_letE, pk_bd2E, pk_bd3E, if_true, if_false, eq_self, not_true_eq_false, not_false_eq_true, true_and, and_true, Nat.not_lt_zero, Nat.zero_le, Nat.reduceEqDiff, Nat.reduceLT, Nat.reduceLeDiff, pk_ck, pk_lit, nI_add, pk_mul, nI_clamp, nI_leI, nI_ltI, nI_eq, pk_div, pk_remE, pk_inE, pk_sub, ht, f1, d1, pk_cmpG, pk_lLT]
    rw [if_neg (by omega), show 601 - j = (601 - (j + 1)) + 1 by omega]
    unfold sp_fst
    by_cases c : sp_tot D (sp_rt D w j) ≤ gg
    · rw [if_neg (by omega), if_pos (decide_eq_true c)]
      exact ⟨V2, rfl, g1⟩
    · rw [if_pos (by omega), if_neg (fun q => c (of_decide_eq_true q))]
      exact ih V4 ⟨(g1.tr f2).tr d2, d3⟩
theorem st_36 (hN : 20000 ≤ N) (hI : pk_IA z Y V) : bk_st36 N z (z + 58) (z + 86) Y V x1 x2 x3 x4 x5 (pk_IA z) := by
  obtain ⟨t, u, s, D, P, T, tl, st, hs, img, pl, fp, r0, r1, hJ, hR, hB, hC, hRA, hBA⟩ := hI.e
  obtain ⟨hM, hS, hz, hT, hs5, -⟩ := hJ.o
  have hF := hB.2.2.1.1.2.2.1
  have hFz := hB.2.2.1.1.2.2.2
  rcases pk_ix2 x1 (n := 1001) (by omega) with hx | ⟨j, hj, rfl⟩
  · have ho : ¬ (nI 0 ≤ x1 ∧ x1 ≤ nI 1000) := pk_out hx (by omega) (by omega)
    refine ⟨.inl 2, ?_, (fun e he => by cases he; rfl), pk_stT hC hRA hBA rfl (k := 1) (by decide) (v := nI 0) (fun Y1 V1 h1 h2 => ⟨_, ?_, pk_frR.rf⟩)⟩
    · simp only [q_X11_enough, pc_isWithin, pk_bs, pk_lit, pc_needA]
      rw [if_neg ho, pk_bdxL]
    · simp only [q_X12_enough, h1, pk_ckT, eq_self, pk_letE, pk_lit, pr_within, pk_bs]
      rw [pr_right h1 pk_w0 (Or.inl rfl), pk_bd2E, if_neg ho, pk_Bf ho, if_pos rfl]
  · have hin : nI 0 ≤ nI j ∧ nI j ≤ nI 1000 := pk_inn hj (by omega) rfl
    obtain ⟨Y', V', k, s1, s2, s3⟩ := pc_setOut hN hJ hB
    have hM1 := s3.o.1
    obtain ⟨V2, k2, i1, i2, i3⟩ := pc_behind (N := N) (i := 0) hN s3 hB (by omega)
    have hl := sp_totR_le hB.1 hF 0
    have hg : sp_tot D (sp_rt D st.2.2.2 0) / 1000 * j ≤ 900000000000000000 := by
      have h1 : sp_tot D (sp_rt D st.2.2.2 0) / 1000 * j ≤ 336000000000000 * 1000 := Nat.mul_le_mul (by omega) (by omega)
      omega
    obtain ⟨V3, k3, m1, m2, m3⟩ := pc_en34 (N := N) hN i3 hB hg
    refine ⟨.inr (sp_oI (sp_fst (fun i => decide (sp_tot D (sp_rt D st.2.2.2 i) ≤ sp_tot D (sp_rt D st.2.2.2 0) / 1000 * j)) 601 0), Y', V3), ?_, (fun e he => by cases he), pk_stQ hC hRA hBA ⟨⟨t, u, s, m3.jc⟩, (s2.tr i2).tr m2⟩ rfl (fun Y1 V1 h1 h2 => ?_)⟩
    · simp only [q_X11_enough, pc_isWithin, pk_bs, pk_lit, pc_needA]
      rw [if_pos hin, pk_bdxR]
      simp only [hM, pk_ckT, eq_self, s1, pk_bd2E, hM1, pk_ckT, pk_bs, pk_letE, pk_bd2E, pk_bd3E, if_true, if_false, eq_self, not_true_eq_false, not_false_eq_true, true_and, and_true, Nat.not_lt_zero, Nat.zero_le, Nat.reduceEqDiff, Nat.reduceLT, Nat.reduceLeDiff, pk_ck, i1]
      simp (disch := omega) only [pk_litL, pk_lDiv, nI_l, lN_mul]
      exact m1
    · have h3 : pk_JR (z + 58) (bk_wI V1 (z + 58) 0 (nI 0)) D P T tl st hs img pl fp r0 r1 := pk_JR.w0 h2
      obtain ⟨V3, a1, a2, -, a3⟩ := pr_copyJ (N := N) (by omega) h1 h3
      have ht := pr_tog (N := N) (by omega) h1 hB.1 hFz a3
      obtain ⟨V4, n1, n2⟩ := pr_en45 (N := N) (by omega) h1 (h3.1.fr a2) hB.1 hF hFz a3 hg
      refine ⟨V4, ?_, a2.tr n2⟩
      simp only [q_X12_enough, h1, pk_ckT, eq_self, pk_letE, pk_lit, pr_within, pk_bs]
      rw [pr_right h1 pk_w0 (Or.inl rfl), pk_bd2E, if_pos hin, pk_Bt hin, if_neg (by decide), a1, pk_bs]
      simp only [h1, pk_ckT, pk_bs, pk_letE, pk_bd2E, pk_bd3E, if_true, if_false, eq_self, not_true_eq_false, not_false_eq_true, true_and, and_true, Nat.not_lt_zero, Nat.zero_le, Nat.reduceEqDiff, Nat.reduceLT, Nat.reduceLeDiff, pk_ck, ht]
      simp (disch := omega) only [pk_litL, pk_lDiv, nI_l, lN_mul]
      exact n1
/-! plan -/
theorem sp_pln_le : sp_pln D w k i ≤ k := by
  have := sp_sum_le (f := fun j => if sp_next D (sp_rt D w j) = i then 1 else 0) (m := 1) (n := k) (fun j _ => by split <;> omega)
  unfold sp_pln
  omega
theorem sp_pln_s : sp_pln D w (k + 1) i = sp_pln D w k i + (if sp_next D (sp_rt D w k) = i then 1 else 0) := rfl
theorem sp_cn_s (hn : sp_next D (sp_rt D w k) < 84) : sp_cn D w (k + 1) = sp_cn D w k + (if sp_pln D w k (sp_next D (sp_rt D w k)) = 0 then 1 else 0) := by
  have h := sp_sum_one (f := fun i => if 0 < sp_pln D w (k + 1) i then 1 else 0) (g := fun i => if 0 < sp_pln D w k i then 1 else 0) (a := sp_next D (sp_rt D w k)) 84 hn (fun i _ hi => by
    show (if 0 < sp_pln D w (k + 1) i then 1 else 0) = _
    rw [sp_pln_s, if_neg (show ¬ sp_next D (sp_rt D w k) = i from fun q => hi q.symm), Nat.add_zero])
  have h2 : sp_cn D w (k + 1) + (if 0 < sp_pln D w k (sp_next D (sp_rt D w k)) then 1 else 0) = sp_cn D w k + (if 0 < sp_pln D w (k + 1) (sp_next D (sp_rt D w k)) then 1 else 0) := h
  rw [sp_pln_s, if_pos rfl] at h2
  by_cases c : sp_pln D w k (sp_next D (sp_rt D w k)) = 0
  · rw [if_pos c]
    rw [if_neg (by omega), if_pos (by omega)] at h2
    omega
  · rw [if_neg c]
    rw [if_pos (by omega), if_pos (by omega)] at h2
    omega
theorem sp_cn0 : sp_cn D w 0 = 0 := by
  have := sp_sum_le (f := fun i => if 0 < sp_pln D w 0 i then 1 else 0) (m := 0) (n := 84) (fun i _ => by
    rw [if_neg (by have := sp_pln_le (D := D) (w := w) (k := 0) (i := i); omega)]
    omega)
  unfold sp_cn
  omega
theorem sp_cn_le (k : Nat) : sp_cn D w k ≤ 84 := by
  have := sp_sum_le (f := fun i => if 0 < sp_pln D w k i then 1 else 0) (m := 1) (n := 84) (fun i _ => by split <;> omega)
  unfold sp_cn
  omega
theorem pk_frP.rf : pk_frP z V V := ⟨fun _ _ _ _ => rfl, fun _ _ => rfl, fun _ _ _ _ => rfl⟩
theorem pk_frP.tr (h : pk_frP z V V') (h2 : pk_frP z V' V2) : pk_frP z V V2 := ⟨fun a x y w => (h2.1 a x y w).trans (h.1 a x y w), fun k x => (h2.2.1 k x).trans (h.2.1 k x), fun a x y w => (h2.2.2 a x y w).trans (h.2.2 a x y w)⟩
theorem pk_frQ.toP (h : pk_frQ z V V') : pk_frP z V V' := ⟨fun a x y _ => h.1 a x y, h.2.1, h.2.2⟩
theorem pk_frP.w8 : pk_frP z V (bk_wI V (z + 8) k x) := ⟨fun _ _ _ q => pk_rowI q, fun _ _ => by rw [pk_rowI (by omega)], fun _ _ _ _ => rfl⟩
theorem pk_frP.ct (f : pk_frP z V V') (h : pk_CT V t D P) (hn : t = z + 10 ∨ t = z + 32) : pk_CT V' t D P := h.of (fun a q1 q2 q3 => f.1 a (by omega) (by omega) (by omega))
theorem pc_inchQ (hN : 20000 ≤ N) (hM : pk_Mn Y z) (h4 : bk_rR Y (z + 3) 4 = some t) (hn : t = z + 10 ∨ t = z + 32) (hS : pk_Sd Y t) (hT : pk_CT V t D P) (hB : pk_DB D P) (hF : ∀ p, w p ≤ 1000000000000000) (hQ : pk_Q z V D w k) (hk : k ≤ 600) (hi : i < 600) : ∃ V' k', q_X3_inchIn N Y V (z + 3) (nI i) = some (nI (sp_next D (sp_rt D w i)), V') ∧ pk_frQ z V V' ∧ pk_Q z V' D w k' ∧ k' ≤ 600 := by
  obtain ⟨V', e1, e2, e3⟩ := pc_goOn13 (N := N) (m := i + 1) hN hM h4 hn hS hT hB hF hQ hk (by omega)
  refine ⟨V', _, ?_, e2, e3, by omega⟩
  have hr := e3.2.1 i (by omega)
  have eg : q_X3_goOn N Y V (z + 3) (nI (i + 1)) = some V' := by
    simp only [q_X3_goOn, hM, pk_ckT, pk_bs, pk_letE, pk_bd2E, pk_bd3E, if_true, if_false, eq_self, not_true_eq_false, not_false_eq_true, true_and, and_true, Nat.not_lt_zero, Nat.zero_le, Nat.reduceEqDiff, Nat.reduceLT, Nat.reduceLeDiff, pk_ck, h4, bk_nl, hQ.1]
    exact e1
  simp only [q_X3_inchIn, pc_isWithin, pk_bs, pk_lit, pk_B0]
  rw [if_neg (fun q => q ⟨nI_le (by omega) (by omega), nI_le (by omega) (by omega)⟩)]
  simp (disch := omega) only [hM, pk_ckT, pk_bs, pk_letE, pk_bd2E, pk_bd3E, if_true, if_false, eq_self, not_true_eq_false, not_false_eq_true, true_and, and_true, Nat.not_lt_zero, Nat.zero_le, Nat.reduceEqDiff, Nat.reduceLT, Nat.reduceLeDiff, pk_ck, pk_lit, nI_add, pk_mul, nI_clamp, nI_leI, nI_ltI, nI_eq, pk_div, pk_remE, pk_inE, pk_sub, eg, hr]
theorem pc_fill (hN : 1000 ≤ N) (hs : bk_sh Y a = (2, n)) (hn : n ≤ 900) : ∃ V', q_J7_fill_53178 N Y V a 0 = some V' ∧ V'.2 = V.2 ∧ (∀ b, b ≠ a → V'.1 b = V.1 b) ∧ ∀ i, i < n → bk_rI V' a i = nI 0 := by
  have e0 : q_J7_fill_53178 N Y V a 0 = q_J7_fill_53178_5 N Y N V a (nI 0) (nI 0) (nI n) := by
    simp only [q_J7_fill_53178, hs, pk_ckT, pk_bs, pk_letE, pk_bd2E, pk_bd3E, if_true, if_false, eq_self, not_true_eq_false, not_false_eq_true, true_and, and_true, Nat.not_lt_zero, Nat.zero_le, Nat.reduceEqDiff, Nat.reduceLT, Nat.reduceLeDiff, pk_ck, pk_lit]
  rw [e0]
  refine loop_i (σ := bk_Val) (fun fu j V1 => ∃ V', q_J7_fill_53178_5 N Y fu V1 a (nI 0) (nI j) (nI n) = some V' ∧ V'.2 = V.2 ∧ (∀ b, b ≠ a → V'.1 b = V.1 b) ∧ ∀ i, i < n → bk_rI V' a i = nI 0) (fun j V1 => V1.2 = V.2 ∧ (∀ b, b ≠ a → V1.1 b = V.1 b) ∧ ∀ i, i < j → bk_rI V1 a i = nI 0) n ?_ ?_ N 0 V (by omega) (by omega) ⟨rfl, fun _ _ => rfl, fun i hi => by omega⟩
  · intro fu V1 hV
    exact ⟨V1, by rw [q_J7_fill_53178_5, if_pos (nI_le (by omega) (by omega))], hV⟩
  · intro fu j V1 hj hV ih
    rw [q_J7_fill_53178_5]
    simp (disch := omega) only [hs, pk_ckT, pk_bs, pk_letE, pk_bd2E, pk_bd3E, if_true, if_false, eq_self, not_true_eq_false, not_false_eq_true, true_and, and_true, Nat.not_lt_zero, Nat.zero_le, Nat.reduceEqDiff, Nat.reduceLT, Nat.reduceLeDiff, pk_ck, pk_lit, nI_add, pk_mul, nI_clamp, nI_leI, nI_ltI, nI_eq, pk_div, pk_remE, pk_inE, pk_sub]
    rw [if_neg (by omega)]
    refine ih _ ⟨hV.1, fun b hb => (pk_rowI hb).trans (hV.2.1 b hb), fun i hi => ?_⟩
    rw [pk_rI_same]
    by_cases c : i = j
    · rw [if_pos c]
    · rw [if_neg c]
      exact hV.2.2 i (by omega)
theorem pc_pl27 (hN : 20000 ≤ N) (hM : pk_Mn Y z) (h4 : bk_rR Y (z + 3) 4 = some t) (hn : t = z + 10 ∨ t = z + 32) (hS : pk_Sd Y t) (hT : pk_CT V t D P) (hB : pk_DB D P) (hF : ∀ p, w p ≤ 1000000000000000) (hQ : pk_Q z V D w k) (hk : k ≤ 600) (hm : m ≤ 600) (h8 : ∀ i, i < 84 → bk_rI V (z + 8) i = nI 0) : ∃ V' k', q_X11_plan_27 N N Y V z (nI m) 0 0 = some (.inr (nI (sp_cn D w m), Y, bk_wI V' z 11 (nI 1))) ∧ pk_frP z V V' ∧ pk_Q z V' D w k' ∧ k' ≤ 600 ∧ ∀ i, i < 84 → bk_rI V' (z + 8) i = nI (sp_pln D w m i) := by
  have b0 := hB.1
  have hlt : ∀ j, sp_next D (sp_rt D w j) < D 0 0 := fun j => sp_next_lt hB
  have e0 : q_X11_plan_27 N N Y V z (nI m) 0 0 = q_X11_plan_27 N N Y V z (nI m) (nI (sp_cn D w 0)) (nI 0) := by rw [sp_cn0]; rfl
  rw [e0]
  refine loop_i (σ := bk_Val) (fun fu j V1 => ∃ V' k', q_X11_plan_27 N fu Y V1 z (nI m) (nI (sp_cn D w j)) (nI j) = some (.inr (nI (sp_cn D w m), Y, bk_wI V' z 11 (nI 1))) ∧ pk_frP z V V' ∧ pk_Q z V' D w k' ∧ k' ≤ 600 ∧ ∀ i, i < 84 → bk_rI V' (z + 8) i = nI (sp_pln D w m i)) (fun j V1 => pk_frP z V V1 ∧ (∃ k', pk_Q z V1 D w k' ∧ k' ≤ 600) ∧ ∀ i, i < 84 → bk_rI V1 (z + 8) i = nI (sp_pln D w j i)) m ?_ ?_ N 0 V (by omega) (by omega) ⟨pk_frP.rf, ⟨k, hQ, hk⟩, h8⟩
  · intro fu V1 hV
    obtain ⟨g1, ⟨k1, g2, g3⟩, g4⟩ := hV
    refine ⟨V1, k1, ?_, g1, g2, g3, g4⟩
    rw [q_X11_plan_27, if_pos (nI_le (by omega) (by omega)), pk_ck hM.1, pk_letE]
    rfl
  · intro fu j V1 hj hV ih
    obtain ⟨g1, ⟨k1, g2, g3⟩, g4⟩ := hV
    obtain ⟨V2, k2, f1, f2, f3, f4⟩ := pc_inchQ (N := N) (i := j) hN hM h4 hn hS (g1.ct hT hn) hB hF g2 g3 (by omega)
    have hl := hlt j
    have hs := sp_cn_s (D := D) (w := w) (k := j) (by omega)
    have hcn := sp_cn_le (D := D) (w := w) j
    obtain ⟨nx, hnx⟩ : ∃ nx, nx = sp_next D (sp_rt D w j) := ⟨_, rfl⟩
    rw [← hnx] at f1 hl hs
    have r8 : ∀ i, i < 84 → bk_rI V2 (z + 8) i = nI (sp_pln D w j i) := fun i hi => by
      rw [← g4 i hi]
      exact congrFun (f2.1 (z + 8) (by omega) (by omega)) i
    have r8n := r8 nx (by omega)
    have hple := sp_pln_le (D := D) (w := w) (k := j) (i := nx)
    have ih' := ih (bk_wI V2 (z + 8) nx (nI (sp_pln D w j nx + 1))) ⟨(g1.tr f2.toP).tr pk_frP.w8, ⟨k2, ⟨by rw [pk_rI_ne (by omega)]; exact f3.1, fun i hi => by rw [pk_rI_ne (by omega)]; exact f3.2.1 i hi, f3.2.2⟩, f4⟩, fun i hi => by
      rw [pk_rI_same, sp_pln_s, ← hnx]
      by_cases c : i = nx
      · rw [if_pos c, if_pos c.symm, c]
      · rw [if_neg c, if_neg (fun q => c q.symm), Nat.add_zero]
        exact r8 i hi⟩
    rw [q_X11_plan_27]
    simp (disch := omega) only [hM, pk_ckT, pk_bs, pk_letE, pk_bd2E, pk_bd3E, if_true, if_false, eq_self, not_true_eq_false, not_false_eq_true, true_and, and_true, Nat.not_lt_zero, Nat.zero_le, Nat.reduceEqDiff, Nat.reduceLT, Nat.reduceLeDiff, pk_ck, pk_lit, nI_add, pk_mul, nI_clamp, nI_leI, nI_ltI, nI_eq, pk_div, pk_remE, pk_inE, pk_sub, f1, r8n, q_X11_plan_58]
    rw [if_neg (by omega)]
    rw [hs] at ih'
    by_cases c : sp_pln D w j nx = 0
    · rw [if_pos c]
      rw [if_pos c] at ih'
      exact ih'
    · rw [if_neg c]
      rw [if_neg c] at ih'
      exact ih'
end
