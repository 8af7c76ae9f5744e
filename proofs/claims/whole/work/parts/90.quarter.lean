/-! quarter -/
section
variable {N z t u s tl r a b c d k n j h m l p q0 md wa s' i f e gg : Nat} {Y Y' : bk_Lay} {V V' V2 W : bk_Val} {x y x1 x2 x3 x4 x5 : Int32} {w1 w2 : Int64} {D : Nat → Nat → Nat} {P : Nat → List Nat} {T T' w R : Nat → Nat} {st st' g : pk_St} {hs hs' : List pk_St} {img img' : Option (pk_St × List pk_St)} {pl : Option (Nat → Nat)} {fp r0 r1 : Int32} {A B : pk_A}
def sp_qi (d : Nat) (w : Nat → Nat) (e i : Nat) : Nat := if i * 4 / d = e then sp_in w i else 0
def sp_qp (d : Nat) (w : Nat → Nat) (e p : Nat) : Nat := if p / 4 * 4 / d = e then w p else 0
def sp_q (d : Nat) (w : Nat → Nat) (e : Nat) : Nat := sp_sum (sp_qi d w e) d
theorem sp_q_p : sp_sum (sp_qp d w e) (4 * d) = sp_q d w e := by
  rw [sp_sum_in]
  unfold sp_q
  congr 1
  funext i
  unfold sp_in sp_qp sp_qi
  rw [show 4 * i / 4 = i by omega, show (4 * i + 1) / 4 = i by omega, show (4 * i + 2) / 4 = i by omega, show (4 * i + 3) / 4 = i by omega]
  by_cases c : i * 4 / d = e
  · simp only [if_pos c]
    rfl
  · simp only [if_neg c]
theorem sp_q_le : sp_q d w e ≤ sp_sum w (4 * d) := by
  rw [sp_sum_in]
  refine sp_sum_mn (fun i _ => ?_)
  unfold sp_qi
  split
  · exact Nat.le_refl _
  · exact Nat.zero_le _
theorem pc_quarterOf (hS : pk_Sd Y t) (hT : pk_CT V t D P) (hd : 12 ≤ D 0 0 ∧ D 0 0 ≤ 84) (hi : i < 84) : q_X5_quarterOf N Y V t (nI i) = some (nI (i * 4 / D 0 0)) := by
  unfold q_X5_quarterOf
  simp only [hS, pk_ckT, pk_bs, pk_letE, pk_bd2E, pk_bd3E, if_true, if_false, eq_self, not_true_eq_false, not_false_eq_true, true_and, and_true, Nat.not_lt_zero, Nat.zero_le, Nat.reduceEqDiff, Nat.reduceLT, Nat.reduceLeDiff, pk_ck, pc_inches hS hT, pk_lit]
  rw [pc_max (by omega) (by omega), pk_bs, Nat.max_eq_left hd.1]
  simp (disch := omega) only [pk_ckT, pk_bs, pk_letE, pk_bd2E, pk_bd3E, if_true, if_false, eq_self, not_true_eq_false, not_false_eq_true, true_and, and_true, Nat.not_lt_zero, Nat.zero_le, Nat.reduceEqDiff, Nat.reduceLT, Nat.reduceLeDiff, pk_ck, pk_lit, nI_add, pk_mul, nI_clamp, nI_leI, nI_ltI, nI_eq, pk_div, pk_remE, pk_inE, pk_sub]
theorem pc_wq (hN : 1000 ≤ N) (hM : pk_Mn Y z) (hz : bk_rR Y z 5 = some t) (hz7 : bk_rR Y z 7 = some s) (hS : pk_Sd Y t) (hT : pk_CT V t D P) (hd : 12 ≤ D 0 0 ∧ D 0 0 ≤ 84) (h5 : bk_sh Y s = (1, 5)) (v1 : bk_rR Y s 4 = some wa) (v3 : bk_sh Y wa = (3, 4 * D 0 0)) (v4 : ∀ p, p < 4 * D 0 0 → bk_rL V wa p = lN (w p)) (he : e < 4) : q_X11_weightOfQuarter N Y V z (nI e) = some (lN (sp_q (D 0 0) w e)) := by
  refine loop_i (σ := Unit) (fun fu i _ => q_X11_weightOfQuarter_5 N Y fu V z (nI e) (lN (sp_sum (sp_qi (D 0 0) w e) i)) (nI i) = some (lN (sp_q (D 0 0) w e))) (fun _ _ => True) (D 0 0) ?_ ?_ N 0 () (by omega) (by omega) trivial
  · intro fu _ _
    rw [q_X11_weightOfQuarter_5]
    simp (disch := omega) only [hM, hz, hS, pk_ckT, pk_bs, pk_letE, pk_bd2E, pk_bd3E, if_true, if_false, eq_self, not_true_eq_false, not_false_eq_true, true_and, and_true, Nat.not_lt_zero, Nat.zero_le, Nat.reduceEqDiff, Nat.reduceLT, Nat.reduceLeDiff, pk_ck, pc_inches hS hT, nI_leI, Nat.le_refl]
    rfl
  · intro fu i _ hi _ ih
    have ih' : q_X11_weightOfQuarter_5 N Y fu V z (nI e) (lN (sp_sum (sp_qi (D 0 0) w e) i + sp_qi (D 0 0) w e i)) (nI (i + 1)) = some (lN (sp_q (D 0 0) w e)) := ih () trivial
    have hq : i * 4 / D 0 0 < 2 ^ 31 := Nat.lt_of_le_of_lt (Nat.div_le_self _ _) (by omega)
    rw [q_X11_weightOfQuarter_5]
    simp (disch := omega) only [hM, hz, hz7, h5, v1, hS, pk_ckT, pk_bs, pk_letE, pk_bd2E, pk_bd3E, if_true, if_false, eq_self, not_true_eq_false, not_false_eq_true, true_and, and_true, Nat.not_lt_zero, Nat.zero_le, Nat.reduceEqDiff, Nat.reduceLT, Nat.reduceLeDiff, pk_ck, pc_inches hS hT, nI_leI, pc_quarterOf hS hT hd (show i < 84 by omega), nI_eq, pc_ofInch (N := N) (w := w) hN v3 (by omega) (show 4 * i + 4 ≤ 4 * D 0 0 by omega) (fun p hp _ => v4 p (by omega)), q_X11_weightOfQuarter_45]
    rw [if_neg (by omega)]
    by_cases c : i * 4 / D 0 0 = e
    · rw [if_pos c]
      rw [sp_qi, if_pos c] at ih'
      simp (disch := omega) only [lN_add, pk_lit, nI_add]
      exact ih'
    · rw [if_neg c]
      rw [sp_qi, if_neg c, Nat.add_zero] at ih'
      simp (disch := omega) only [pk_lit, nI_add]
      exact ih'
theorem sp_best_lt {f : Nat → Nat} : ∀ n, 0 < n → sp_best f n < n
  | 0, h => by cases h
  | 1, _ => by
    show (if f 0 < f 0 then 0 else 0) < 1
    split <;> omega
  | n + 2, _ => by
    have := sp_best_lt (f := f) (n + 1) (by omega)
    show (if f (sp_best f (n + 1)) < f (n + 1) then n + 1 else sp_best f (n + 1)) < n + 2
    split <;> omega
theorem sp_best1 {f : Nat → Nat} : sp_best f 1 = 0 := by
  have := sp_best_lt (f := f) 1 (by omega)
  omega
theorem pc_quarter {F : Nat → Nat} (hN : 1000 ≤ N) (hM : pk_Mn Y z) (hF : ∀ e, F e ≤ 900000000000000000) (h : ∀ e, e < 4 → q_X11_weightOfQuarter N Y V z (nI e) = some (lN (F e))) : q_X11_quarter N Y V z = some (nI (sp_best F 4)) := by
  have e0 : q_X11_quarter N Y V z = q_X11_quarter_11 N Y N V z (nI (sp_best F 1)) (lN (F (sp_best F 1))) (nI 1) := by
    rw [sp_best1]
    simp only [q_X11_quarter, hM, pk_ckT, eq_self, pk_lit, h 0 (by omega), pk_bs]
  rw [e0]
  refine loop_i (σ := Unit) (fun fu i _ => q_X11_quarter_11 N Y fu V z (nI (sp_best F i)) (lN (F (sp_best F i))) (nI i) = some (nI (sp_best F 4))) (fun _ _ => True) 4 ?_ ?_ N 1 () (by omega) (by omega) trivial
  · intro fu _ _
    rw [q_X11_quarter_11, if_pos (by decide)]
  · intro fu i _ hi _ ih
    have ih' := ih () trivial
    have hb := hF i
    have hc := hF (sp_best F i)
    rw [q_X11_quarter_11]
    simp (disch := omega) only [hM, pk_ckT, pk_bs, pk_letE, pk_bd2E, pk_bd3E, if_true, if_false, eq_self, not_true_eq_false, not_false_eq_true, true_and, and_true, Nat.not_lt_zero, Nat.zero_le, Nat.reduceEqDiff, Nat.reduceLT, Nat.reduceLeDiff, pk_ck, nI_leI, pk_lit, h i hi, pk_cmpL, pk_lLE, q_X11_quarter_38, nI_add]
    rw [if_neg (by omega)]
    by_cases c : F (sp_best F i) < F i
    · rw [if_neg (by omega)]
      rw [show sp_best F (i + 1) = i from if_pos c] at ih'
      exact ih'
    · rw [if_pos (by omega)]
      rw [show sp_best F (i + 1) = sp_best F i from if_neg c] at ih'
      exact ih'
theorem pr_q26 {K : bk_Val → Nat → Int32 → Int64 → Int32 → Option (Int32 × bk_Val)} (hN : 1000 ≤ N) (hS : pk_Rf Y r) (h1 : bk_rI V r 1 = nI d) (hd : 12 ≤ d ∧ d ≤ 84) (he : e < 4) (hw : ∀ p, p < 336 → bk_rL V (r + 15) p = lN (w p)) : q_X12_quarter_26 N Y K N V r x w2 (nI e) 0 0 = if w2 < lN (sp_q d w e) then K V r (nI e) (lN (sp_q d w e)) (nI (e + 1)) else K V r x w2 (nI (e + 1)) := by
  refine loop_i (σ := Unit) (fun fu i _ => q_X12_quarter_26 N Y K fu V r x w2 (nI e) (lN (sp_sum (sp_qp d w e) i)) (nI i) = if w2 < lN (sp_q d w e) then K V r (nI e) (lN (sp_q d w e)) (nI (e + 1)) else K V r x w2 (nI (e + 1))) (fun _ _ => True) (4 * d) ?_ ?_ N 0 () (by omega) (by omega) trivial
  · intro fu _ _
    rw [q_X12_quarter_26, sp_q_p]
    generalize sp_q d w e = S
    simp (disch := omega) only [hS, h1, pk_ckT, pk_bs, pk_letE, pk_bd2E, pk_bd3E, if_true, if_false, eq_self, not_true_eq_false, not_false_eq_true, true_and, and_true, Nat.not_lt_zero, Nat.zero_le, Nat.reduceEqDiff, Nat.reduceLT, Nat.reduceLeDiff, pk_ck, pk_lit, nI_add, pk_mul, nI_clamp, nI_leI, nI_ltI, nI_eq, pk_div, pk_remE, pk_inE, pk_sub, Nat.le_refl, pk_cmpG, q_X12_quarter_91]
  · intro fu i _ hi _ ih
    have ih' : q_X12_quarter_26 N Y K fu V r x w2 (nI e) (lN (sp_sum (sp_qp d w e) i + sp_qp d w e i)) (nI (i + 1)) = if w2 < lN (sp_q d w e) then K V r (nI e) (lN (sp_q d w e)) (nI (e + 1)) else K V r x w2 (nI (e + 1)) := ih () trivial
    rw [← ih']
    have hq : i / 4 * 4 / d < 2 ^ 31 := Nat.lt_of_le_of_lt (Nat.div_le_self _ _) (by omega)
    have hq2 : i / 4 * 4 < 2 ^ 31 := by omega
    have hq3 : i / 4 < 2 ^ 31 := by omega
    rw [q_X12_quarter_26]
    simp (disch := omega) only [hS, h1, pk_ckT, pk_bs, pk_letE, pk_bd2E, pk_bd3E, if_true, if_false, eq_self, not_true_eq_false, not_false_eq_true, true_and, and_true, Nat.not_lt_zero, Nat.zero_le, Nat.reduceEqDiff, Nat.reduceLT, Nat.reduceLeDiff, pk_ck, pk_lit, nI_add, pk_mul, nI_clamp, nI_leI, nI_ltI, nI_eq, pk_div, pk_remE, pk_inE, pk_sub, hw i (by omega), q_X12_quarter_66]
    rw [if_neg (by omega)]
    unfold sp_qp
    by_cases c : i / 4 * 4 / d = e
    · rw [if_pos c, if_pos c, lN_add]
    · rw [if_neg c, if_neg c, Nat.add_zero]
      congr 1
      exact Int64.add_zero _
theorem pr_quarter (hN : 1000 ≤ N) (hS : pk_Rf Y r) (h1 : bk_rI V r 1 = nI d) (hd : 12 ≤ d ∧ d ≤ 84) (hw : ∀ p, p < 336 → bk_rL V (r + 15) p = lN (w p)) (hF : ∀ e, sp_q d w e ≤ 900000000000000000) : q_X12_quarter_14 N Y N V r 0 (-1) 0 = some (nI (sp_best (sp_q d w) 4), V) := by
  obtain ⟨m, hm⟩ : ∃ m, N = m + 1 := ⟨N - 1, by omega⟩
  have hF0 := hF 0
  have e0 : q_X12_quarter_14 N Y N V r 0 (-1) 0 = q_X12_quarter_14 N Y m V r (nI (sp_best (sp_q d w) 1)) (lN (sp_q d w (sp_best (sp_q d w) 1))) (nI 1) := by
    rw [sp_best1]
    conv => lhs; arg 3; rw [hm]
    rw [q_X12_quarter_14, if_neg (by decide)]
    have := pr_q26 (K := q_X12_quarter_14 N Y m) (x := 0) (w2 := -1) (e := 0) hN hS h1 hd (by omega) hw
    refine Eq.trans this ?_
    rw [if_pos]
    show (-1 : Int64) < lN (sp_q d w 0)
    rw [Int64.lt_iff_toInt_lt, show (lN (sp_q d w 0)).toInt = ((sp_q d w 0 : Nat) : Int) from lg_ofNat_toInt (by omega)]
    exact Int.lt_of_lt_of_le (by decide) (Int.natCast_nonneg _)
  rw [e0]
  refine loop_i (σ := Unit) (fun fu i _ => q_X12_quarter_14 N Y fu V r (nI (sp_best (sp_q d w) i)) (lN (sp_q d w (sp_best (sp_q d w) i))) (nI i) = some (nI (sp_best (sp_q d w) 4), V)) (fun _ _ => True) 4 ?_ ?_ m 1 () (by omega) (by omega) trivial
  · intro fu _ _
    rw [q_X12_quarter_14, if_pos (by decide)]
  · intro fu i _ hi _ ih
    have ih' := ih () trivial
    have hb := hF i
    have hc := hF (sp_best (sp_q d w) i)
    rw [q_X12_quarter_14]
    simp (disch := omega) only [pk_lit, nI_leI]
    rw [if_neg (by omega)]
    refine Eq.trans (pr_q26 (K := q_X12_quarter_14 N Y fu) hN hS h1 hd hi hw) ?_
    by_cases c : sp_q d w (sp_best (sp_q d w) i) < sp_q d w i
    · simp (disch := omega) only [pk_lLT]
      rw [if_pos c]
      rw [show sp_best (sp_q d w) (i + 1) = i from if_pos c] at ih'
      exact ih'
    · simp (disch := omega) only [pk_lLT]
      rw [if_neg c]
      rw [show sp_best (sp_q d w) (i + 1) = sp_best (sp_q d w) i from if_neg c] at ih'
      exact ih'
theorem st_33 (hN : 20000 ≤ N) (hI : pk_IA z Y V) : bk_st33 N z (z + 58) (z + 86) Y V x1 x2 x3 x4 x5 (pk_IA z) := by
  obtain ⟨t, u, s, D, P, T, tl, st, hs, img, pl, fp, r0, r1, hJ, hR, hB, hC, hRA, hBA⟩ := hI.e
  obtain ⟨hM, hS, hz, hT, hs5, -⟩ := hJ.o
  obtain ⟨wa, v1, v2, v3, v4⟩ := hJ.ww
  have b1 := hB.1.1
  have tl' := sp_tot_le hB.1 hB.2.2.1.1
  have hF : ∀ e, sp_q (D 0 0) st.2.2.2 e ≤ 900000000000000000 := fun e => Nat.le_trans sp_q_le (Nat.le_trans tl' (by omega))
  have hRf := hC.rf.1
  have h3 : pk_JR (z + 58) (bk_wI V (z + 58) 0 (nI 0)) D P T tl st hs img pl fp r0 r1 := pk_JR.w0 hRA
  have c1 : q_X11_quarter N Y V z = some (nI (sp_best (sp_q (D 0 0) st.2.2.2) 4)) := pc_quarter (by omega) hM hF (fun e he => pc_wq (by omega) hM hz.1 hz.2.2 hS hT b1 hs5.1 v1 v3 v4 he)
  refine ⟨_, c1, hRf.1, _, bk_wI V (z + 58) 0 (nI 0), ?_, rfl, (pk_RO.fr hRA pk_frR.rf).I hC hBA⟩
  rw [q_X12_quarter, pk_ck hRf.1, pk_letE]
  exact pr_quarter (by omega) hRf h3.1.1.1 b1 h3.2.2.1.2.2.2 hF
end
