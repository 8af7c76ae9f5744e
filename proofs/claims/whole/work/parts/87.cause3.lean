/-! cause: the reference's, the step -/
section
variable {N z t u s tl r a b c d k n j h m l p q0 md wa s' i f e gg : Nat} {Y Y' : bk_Lay} {V V' V2 W : bk_Val} {x y x1 x2 x3 x4 x5 : Int32} {w1 w2 : Int64} {D : Nat → Nat → Nat} {P : Nat → List Nat} {T T' w R : Nat → Nat} {st st' g : pk_St} {hs hs' : List pk_St} {img img' : Option (pk_St × List pk_St)} {pl : Option (Nat → Nat)} {fp r0 r1 : Int32} {A B : pk_A}
def pk_bL (s : Nat) (V V' : bk_Val) : Prop := V'.1 = V.1 ∧ ∀ a, a ≠ s → V'.2 a = V.2 a
theorem pk_bL.rf : pk_bL s V V := ⟨rfl, fun _ _ => rfl⟩
theorem pk_bL.wL {w : Int64} (h : pk_bL s V V') : pk_bL s V (bk_wL V' s k w) := ⟨h.1, fun a q => (pk_rowL q).trans (h.2 a q)⟩
theorem pk_bL.rdI (h : pk_bL s V V') : bk_rI V' a k = bk_rI V a k := by unfold bk_rI; rw [h.1]
theorem pk_bL.R23 (h : pk_bL (r + 23) V V') : pk_frR r V V' := ⟨fun a _ _ _ _ => by rw [h.1], fun k _ _ _ _ => by rw [h.1], fun a _ _ q3 => h.2 a q3⟩
theorem pr_causesOf (hN : 1000 ≤ N) (hS : pk_Rf Y r) (hT : pk_RT V r D P) (hB : pk_DB D P) (hh : h < D 2 0) : ∃ V2, q_X12_causesOf N Y V r (nI h) = some (lN (sp_sum (sp_wc D h) 4), V2) ∧ pk_bL (r + 23) V V2 ∧ ∀ c, c < 4 → bk_rL V2 (r + 23) c = lN (sp_wc D h c) := by
  have b1 : D 2 0 ≤ 6 := hB.2.2.2.2.2.2.2.2.2.1
  have b0 := hB.1
  have b2 := hB.2.2.2.2.2.2.2.2.2.2.1
  obtain ⟨c1, c2, c3, -⟩ := hT
  obtain ⟨g1, g2, -, -⟩ := c3 h hh
  obtain ⟨q3, q4, -⟩ := b2 h hh
  have fin : ∃ V2, q_X12_causesOf_90 N Y N V r (nI h) (pk_B (sp_bt D h = true)) (lN (sp_sum (sp_wc D h) 0)) (nI 0) = some (lN (sp_sum (sp_wc D h) 4), V2) ∧ pk_bL (r + 23) V V2 ∧ ∀ c, c < 4 → bk_rL V2 (r + 23) c = lN (sp_wc D h c) := by
    refine loop_i (σ := bk_Val) (fun fu i W => ∃ V2, q_X12_causesOf_90 N Y fu W r (nI h) (pk_B (sp_bt D h = true)) (lN (sp_sum (sp_wc D h) i)) (nI i) = some (lN (sp_sum (sp_wc D h) 4), V2) ∧ pk_bL (r + 23) V V2 ∧ ∀ c, c < 4 → bk_rL V2 (r + 23) c = lN (sp_wc D h c))
      (fun i W => pk_bL (r + 23) V W ∧ ∀ c, c < i → bk_rL W (r + 23) c = lN (sp_wc D h c)) 4 ?_ ?_ N 0 V (by omega) (by omega) ⟨pk_bL.rf, fun c hc => by omega⟩
    · intro fu W hW
      refine ⟨W, ?_, hW⟩
      rw [q_X12_causesOf_90, if_pos (by decide)]
    · intro fu i W hi hW ih
      have put : ∀ v, v = sp_wc D h i → ∃ V2, q_X12_causesOf_173 N Y (q_X12_causesOf_90 N Y fu) W r (nI h) (pk_B (sp_bt D h = true)) (lN (sp_sum (sp_wc D h) i)) (nI i) (r + 23) (nI i) (lN v) = some (lN (sp_sum (sp_wc D h) 4), V2) ∧ pk_bL (r + 23) V V2 ∧ ∀ c, c < 4 → bk_rL V2 (r + 23) c = lN (sp_wc D h c) := by
        intro v hv
        rw [hv, q_X12_causesOf_173]
        simp (disch := omega) only [hS, pk_ckT, pk_bs, pk_letE, pk_bd2E, pk_bd3E, if_true, if_false, eq_self, not_true_eq_false, not_false_eq_true, true_and, and_true, Nat.not_lt_zero, Nat.zero_le, Nat.reduceEqDiff, Nat.reduceLT, Nat.reduceLeDiff, pk_ck, nI_clamp, pk_inE, pk_rI_same, pk_rI_ne, pk_rI_wL, pk_rL_wI, pk_rL_same, pk_rL_ne, lN_add, nI_add, pk_lit]
        refine ih _ ⟨hW.1.wL, fun c hc => ?_⟩
        rw [pk_rL_same]
        by_cases q : c = i
        · rw [if_pos q, q]
        · rw [if_neg q]; exact hW.2 c (by omega)
      have c2i : bk_rI W (r + 2) i = nI (D 1 i) := hW.1.rdI.trans (c2 i hi)
      have g1' : bk_rI W (r + 1) (4 * h) = nI (D 3 h) := hW.1.rdI.trans g1
      have g2' : bk_rI W (r + 1) (4 * h + 1) = nI (D 4 h) := hW.1.rdI.trans g2
      have h1' : bk_rI W r 1 = nI (D 0 0) := hW.1.rdI.trans c1.1
      have hp := sp_pl_in (c := i) hB
      have hl := sp_sh_le hB hi sp_M_le
      have d1 : D 1 i ≤ 99 := hB.2.2.2.2.2.2.2.2.1 i hi
      have hne := pk_lne (b := sp_pl D i) (by omega) (by omega)
      have es : D 1 i * sp_M / sp_pl D i = sp_sh D sp_M i := rfl
      rw [q_X12_causesOf_90, if_neg (show ¬ (4 : Int32) ≤ nI i from nI_ge (b := 4) (by omega) (by omega))]
      simp only [pk_M]
      simp (disch := omega) only [hS, pk_ckT, pk_bs, pk_letE, pk_bd2E, pk_bd3E, if_true, if_false, eq_self, not_true_eq_false, not_false_eq_true, true_and, and_true, Nat.not_lt_zero, Nat.zero_le, Nat.reduceEqDiff, Nat.reduceLT, Nat.reduceLeDiff, pk_ck, nI_clamp, pk_inE, pk_mul, nI_add, pk_lit, g1', g2', pr_may hi q4 (show D 3 h < 200 by omega), pk_B0, c2i, pr_places hS h1' hi, nI_l, pk_litL]
      by_cases q : sp_mk i (D 3 h) (D 4 h)
      · rw [if_neg (fun g => g q), lN_mul, pk_lDiv (by omega) (by omega) (by omega), es]
        simp (disch := omega) only [nI_eq, q_X12_causesOf_167, q_X12_causesOf_168, pk_litL, lN_mul, Nat.mul_one]
        by_cases ci : i = 1
        · rw [if_pos ci]
          by_cases q2 : sp_bt D h = true
          · rw [if_neg (fun g => g q2)]
            exact put _ (by unfold sp_wc; rw [if_pos q, if_pos ⟨ci, q2⟩, Nat.mul_comm])
          · rw [if_pos q2]
            exact put _ (by unfold sp_wc; rw [if_pos q, if_neg (fun g => q2 g.2)])
        · rw [if_neg ci]
          exact put _ (by unfold sp_wc; rw [if_pos q, if_neg (fun g => ci g.1)])
      · rw [if_pos q]
        exact put 0 (by unfold sp_wc; rw [if_neg q])
  refine loop_i (σ := Unit) (fun fu i _ => ∃ V2, q_X12_causesOf_4 N Y fu V r (nI h) (pk_B (sp_or (sp_bf D h) i = true)) (nI i) = some (lN (sp_sum (sp_wc D h) 4), V2) ∧ pk_bL (r + 23) V V2 ∧ ∀ c, c < 4 → bk_rL V2 (r + 23) c = lN (sp_wc D h c)) (fun _ _ => True) (D 2 0) ?_ ?_ N 0 () (by omega) (by omega) trivial
  · intro fu _ _
    rw [q_X12_causesOf_4]
    simp (disch := omega) only [hS, c1, pk_ckT, pk_bs, pk_letE, pk_bd2E, pk_bd3E, if_true, if_false, eq_self, not_true_eq_false, not_false_eq_true, true_and, and_true, Nat.not_lt_zero, Nat.zero_le, Nat.reduceEqDiff, Nat.reduceLT, Nat.reduceLeDiff, pk_ck, nI_leI, Nat.le_refl]
    exact fin
  · intro fu i _ hi _ ih
    have ih2 := ih () trivial
    have gi := c3 i hi
    have hl := sp_ap_lt (D := D) (a := D 3 i) (b := D 3 h) (b2 i hi).1 (b2 h hh).1
    have qi := (b2 i hi).2.1
    have eo : sp_or (sp_bf D h) (i + 1) = (sp_or (sp_bf D h) i || sp_bf D h i) := rfl
    rw [q_X12_causesOf_4]
    simp (disch := omega) only [hS, c1, pk_ckT, pk_bs, pk_letE, pk_bd2E, pk_bd3E, if_true, if_false, eq_self, not_true_eq_false, not_false_eq_true, true_and, and_true, Nat.not_lt_zero, Nat.zero_le, Nat.reduceEqDiff, Nat.reduceLT, Nat.reduceLeDiff, pk_ck, pk_lit, nI_add, pk_mul, nI_clamp, nI_leI, nI_ltI, nI_eq, pk_div, pk_remE, pk_inE, pk_sub, pk_B0, gi, g1, q_X12_causesOf_49, pr_apart hS c1.1 b0.2 (b2 i hi).1 q3, q_X12_causesOf_77, q_X12_causesOf_73, q_X12_causesOf_78]
    rw [if_neg (by omega)]
    have yes : sp_or (sp_bf D h) (i + 1) = true → ∃ V2, q_X12_causesOf_4 N Y fu V r (nI h) (nI 1) (nI (i + 1)) = some (lN (sp_sum (sp_wc D h) 4), V2) ∧ pk_bL (r + 23) V V2 ∧ ∀ c, c < 4 → bk_rL V2 (r + 23) c = lN (sp_wc D h c) := fun q => by
      rw [pk_Bt q] at ih2
      exact ih2
    have no : ¬ sp_or (sp_bf D h) (i + 1) = true → ∃ V2, q_X12_causesOf_4 N Y fu V r (nI h) (nI 0) (nI (i + 1)) = some (lN (sp_sum (sp_wc D h) 4), V2) ∧ pk_bL (r + 23) V V2 ∧ ∀ c, c < 4 → bk_rL V2 (r + 23) c = lN (sp_wc D h c) := fun q => by
      rw [pk_Bf q] at ih2
      exact ih2
    by_cases q0 : sp_or (sp_bf D h) i = true
    · rw [if_neg (fun g => g q0)]
      exact yes (by rw [eo, q0]; rfl)
    · have q0' : sp_or (sp_bf D h) i = false := Bool.eq_false_iff.mpr q0
      rw [q0', Bool.false_or] at eo
      rw [if_pos q0]
      by_cases e1 : i = h
      · rw [if_pos e1]
        exact no (by rw [eo]; exact fun q => (of_decide_eq_true q).1 e1)
      · rw [if_neg e1]
        have tail : (D 4 i = 1 ∨ D 4 i = 2) → ∃ V2, (if 1 < sp_ap D (D 3 i) (D 3 h) then q_X12_causesOf_4 N Y fu V r (nI h) (nI 0) (nI (i + 1)) else q_X12_causesOf_4 N Y fu V r (nI h) (nI 1) (nI (i + 1))) = some (lN (sp_sum (sp_wc D h) 4), V2) ∧ pk_bL (r + 23) V V2 ∧ ∀ c, c < 4 → bk_rL V2 (r + 23) c = lN (sp_wc D h c) := fun h12 => by
          by_cases e3 : 1 < sp_ap D (D 3 i) (D 3 h)
          · rw [if_pos e3]
            exact no (by rw [eo]; exact fun q => by have := (of_decide_eq_true q).2.2; omega)
          · rw [if_neg e3]
            exact yes (by rw [eo]; exact decide_eq_true ⟨e1, h12, by omega⟩)
        by_cases e2 : D 4 i = 1
        · rw [if_pos e2]; exact tail (Or.inl e2)
        · rw [if_neg e2]
          by_cases e4 : D 4 i = 2
          · rw [if_pos e4]; exact tail (Or.inr e4)
          · rw [if_neg e4]
            exact no (by rw [eo]; exact fun q => (of_decide_eq_true q).2.1.elim e2 e4)
theorem pr_cause (hN : 1000 ≤ N) (hS : pk_Rf Y r) (hR : pk_JR r V D P T tl st hs img pl fp r0 r1) (hB : pk_JB D P T tl st hs img) (hh : h < D 2 0) (hk : k < 5) : ∃ V2, q_X12_cause N Y V r (nI h) (pk_ca k) = some (sp_cau D h k, V2) ∧ pk_frR r (bk_wI V r 0 (nI 0)) V2 := by
  have b1 : D 2 0 ≤ 6 := hB.1.2.2.2.2.2.2.2.2.2.1
  have h3 := hR.w0 (x := nI 0)
  obtain ⟨V2, e1, f1, g1⟩ := pr_causesOf (N := N) hN hS h3.1 hB.1 hh
  have hw : ∀ c, c < 4 → sp_wc D h c ≤ 990000000000 := fun c hc => sp_wc_le hB.1 hc
  have hs4 : sp_sum (sp_wc D h) 4 ≤ 4 * 990000000000 := sp_sum_le (fun c hc => hw c hc)
  refine ⟨V2, ?_, f1.R23⟩
  have e9 : q_X12_right N Y (bk_wI V r 0 (nI 0)) r (nI 1) (nI 1) = some (nI 1, bk_wI V r 0 (nI 0)) := pr_right (c := True) hS pk_w0 (Or.inl rfl)
  have lo : ¬ pk_ca k < (-1 : Int32) ∧ ¬ (4 : Int32) ≤ pk_ca k := by
    have : k = 0 ∨ k = 1 ∨ k = 2 ∨ k = 3 ∨ k = 4 := by omega
    rcases this with rfl | rfl | rfl | rfl | rfl <;> decide
  have base : q_X12_cause N Y V r (nI h) (pk_ca k) = if pk_ca k = (-1 : Int32) then q_X12_cause_66 N Y N V2 r (-1) 0 else (bk_ck (bk_in (pk_ca k) 4) <| Option.bind (q_X12_thousandths N Y V2 (bk_rL V2 (r + 23) (pk_ca k).toNatClampNeg) (lN (sp_sum (sp_wc D h) 4))) fun r_23 => some (r_23, V2)) := by
    rw [q_X12_cause, pk_ck hS.1, pk_letE]
    show bk_bd2 (q_X12_isHole N Y (bk_wI V r 0 (nI 0)) r (nI h)) _ = _
    rw [pr_isHoleY hS pk_w0 (pr_h9 h3) b1 hh, pk_bd2E, if_neg (by decide), if_neg lo.1, if_neg lo.2, q_X12_cause_29, pk_ck hS.1]
    show bk_bd2 (q_X12_right N Y (bk_wI V r 0 (nI 0)) r (nI 1) (nI 1)) _ = _
    rw [e9, pk_bd2E, if_neg (by decide), pk_ck hS.1, e1, pk_bd2E]
    simp only [hS, pk_ckT, pk_bs, pk_letE, pk_bd2E, pk_bd3E, if_true, if_false, eq_self, not_true_eq_false, not_false_eq_true, true_and, and_true, Nat.not_lt_zero, Nat.zero_le, Nat.reduceEqDiff, Nat.reduceLT, Nat.reduceLeDiff, pk_ck]
  rw [base]
  unfold sp_cau
  by_cases c4 : k = 4
  · rw [if_pos c4, c4, if_pos (by decide)]
    refine loop_i (σ := Unit) (fun fu i _ => q_X12_cause_66 N Y fu V2 r (pk_on (sp_lik (sp_wc D h) i)) (nI i) = some (pk_on (sp_lik (sp_wc D h) 4), V2)) (fun _ _ => True) 4 ?_ ?_ N 0 () (by omega) (by omega) trivial
    · intro fu _ _
      rw [q_X12_cause_66, if_pos (by decide)]
    · intro fu i _ hi _ ih
      have ih2 := ih () trivial
      have h1 := hw i hi
      rw [sp_lik_step] at ih2
      rw [q_X12_cause_66, if_neg (show ¬ (4 : Int32) ≤ nI i from nI_ge (b := 4) (by omega) (by omega))]
      simp (disch := omega) only [hS, pk_ckT, pk_bs, pk_letE, pk_bd2E, pk_bd3E, if_true, if_false, eq_self, not_true_eq_false, not_false_eq_true, true_and, and_true, Nat.not_lt_zero, Nat.zero_le, Nat.reduceEqDiff, Nat.reduceLT, Nat.reduceLeDiff, pk_ck, pk_lit, nI_clamp, pk_inE, g1 i hi]
      cases hl : sp_lik (sp_wc D h) i with
      | none =>
        rw [hl] at ih2
        rw [if_pos (show pk_on none = -nI 1 from rfl), q_X12_cause_96]
        simp (disch := omega) only [pk_lit, pk_litL, pk_cmpL, pk_lz, q_X12_cause_104, nI_add]
        have ih2 : q_X12_cause_66 N Y fu V2 r (pk_on (if sp_wc D h i ≤ 0 then none else some i)) (nI (i + 1)) = _ := ih2
        by_cases c : sp_wc D h i ≤ 0
        · rw [if_pos c] at ih2 ⊢
          exact ih2
        · rw [if_neg c] at ih2 ⊢
          exact ih2
      | some b =>
        have hb := sp_lik_lt hl
        have h2 := hw b (by omega)
        rw [hl] at ih2
        rw [if_neg (show ¬ pk_on (some b) = -nI 1 by rw [pk_onm1 (fun k hk => by cases hk; omega)]; intro q; cases q), show pk_on (some b) = nI b from rfl]
        simp (disch := omega) only [pk_ckT, pk_bs, pk_letE, pk_bd2E, pk_bd3E, if_true, if_false, eq_self, not_true_eq_false, not_false_eq_true, true_and, and_true, Nat.not_lt_zero, Nat.zero_le, Nat.reduceEqDiff, Nat.reduceLT, Nat.reduceLeDiff, pk_ck, nI_clamp, pk_inE, g1 b (show b < 4 by omega), q_X12_cause_96, pk_lit, pk_cmpL, pk_lz, q_X12_cause_104, nI_add]
        have ih2 : q_X12_cause_66 N Y fu V2 r (pk_on (if sp_wc D h i ≤ sp_wc D h b then some b else some i)) (nI (i + 1)) = _ := ih2
        by_cases c : sp_wc D h i ≤ sp_wc D h b
        · rw [if_pos c] at ih2 ⊢
          exact ih2
        · rw [if_neg c] at ih2 ⊢
          exact ih2
  · rw [if_neg c4, pk_ca4 (by omega), if_neg (show ¬ nI k = -1 from fun q => by have := pk_eqm1 (a := k) (by omega); rw [← this]; exact q), pk_ck ((pk_inE (by omega)).mpr (by omega)), nI_clamp (by omega), g1 k (by omega), pr_th hN (sp_sum_ge (by omega)) (by omega), pk_bs]
theorem st_25 (hN : 20000 ≤ N) (hI : pk_IA z Y V) : bk_st25 N z (z + 58) (z + 86) Y V x1 x2 x3 x4 x5 (pk_IA z) := by
  obtain ⟨t, u, s, D, P, T, tl, st, hs, img, pl, fp, r0, r1, hJ, hR, hB, hC, hRA, hBA⟩ := hI.e
  obtain ⟨hM, hS, hz, hT, hs5, -⟩ := hJ.o
  have b1 : D 2 0 ≤ 6 := hB.1.2.2.2.2.2.2.2.2.2.1
  rcases pk_ix2 x1 (n := D 2 0) (by omega) with hx | ⟨h, hh, rfl⟩
  · refine ⟨.inl 1, ?_, (fun e he => by cases he; rfl), pk_stT hC hRA hBA rfl (k := 1) (by decide) (v := nI 0) (fun Y1 V1 h1 h2 => ⟨_, ?_, pk_frR.rf⟩)⟩
    · rw [q_X11_cause, pk_ck hM.1, pc_needHoleN hS hM hz.1 hT hB.1 hx, pk_bdxL]
    · simp only [q_X12_cause, h1, pk_ckT, eq_self, pk_letE, pk_lit]
      rw [pr_isHoleN h1 pk_w0 (pr_h9 (pk_JR.w0 h2)) b1 hx, pk_bd2E, if_pos rfl]
  · by_cases q : (-1 : Int32) ≤ x2 ∧ x2 ≤ 3
    · have hk : ∃ k, k < 5 ∧ x2 = pk_ca k := by
        by_cases qm : x2 = -1
        · exact ⟨4, by omega, qm⟩
        · have h0 : ¬ x2 < 0 := fun g => by
            apply qm
            have e1 := q.1
            rw [Int32.le_iff_toInt_le] at e1
            rw [Int32.lt_iff_toInt_lt] at g
            apply Int32.toInt_inj.mp
            have e2 : (-1 : Int32).toInt = -1 := rfl
            have e3 : (0 : Int32).toInt = 0 := rfl
            omega
          obtain ⟨k, hk, e⟩ := nI_of h0
          have : k ≤ 3 := (nI_leI hk (by omega)).mp (by rw [← e]; exact q.2)
          exact ⟨k, by omega, by rw [e, pk_ca4 (by omega)]⟩
      obtain ⟨k, hk, rfl⟩ := hk
      exact ⟨.inr (sp_cau D h k), pc_cause (by omega) hJ hB hh hk, (fun e he => by cases he), pk_stQ hC hRA hBA ⟨hC, pk_offR.rf⟩ rfl (fun Y1 V1 h1 h2 => pr_cause (by omega) h1 h2 hB hh hk)⟩
    · refine ⟨.inl 1, ?_, (fun e he => by cases he; rfl), pk_stT hC hRA hBA rfl (k := 1) (by decide) (v := nI 0) (fun Y1 V1 h1 h2 => ⟨_, ?_, pk_frR.rf⟩)⟩
      · rw [q_X11_cause, pk_ck hM.1, pc_needHoleY hS hM hz.1 hT hB.1 hh, pk_bdxR, pc_isWithin, pk_bs, pc_needE, if_neg q, pk_bdxL]
      · have e9 : q_X12_right N Y1 (bk_wI V1 (z + 58) 0 (nI 0)) (z + 58) (nI 0) (nI 1) = some (nI 0, bk_wI (bk_wI V1 (z + 58) 0 (nI 0)) (z + 58) 0 (nI 1)) := pr_right (c := False) h1 pk_w0 (Or.inl rfl)
        have e8 : q_X12_cause_28 N Y1 (bk_wI V1 (z + 58) 0 (nI 0)) (z + 58) (nI h) x2 (z + 58) = some (nI 0, bk_wI (bk_wI V1 (z + 58) 0 (nI 0)) (z + 58) 0 (nI 1)) := by
          rw [q_X12_cause_28, q_X12_cause_29, pk_ck h1.1]
          show bk_bd2 (q_X12_right N Y1 (bk_wI V1 (z + 58) 0 (nI 0)) (z + 58) (nI 0) (nI 1)) _ = _
          rw [e9, pk_bd2E, if_pos (show nI 0 = (0 : Int32) from rfl)]
          rfl
        rw [q_X12_cause, pk_ck h1.1, pk_letE]
        show bk_bd2 (q_X12_isHole N Y1 (bk_wI V1 (z + 58) 0 (nI 0)) (z + 58) (nI h)) _ = _
        rw [pr_isHoleY h1 pk_w0 (pr_h9 (pk_JR.w0 h2)) b1 hh, pk_bd2E, if_neg (by decide)]
        by_cases c1 : x2 < -1
        · rw [if_pos c1, e8]
        · rw [if_neg c1]
          by_cases c2 : (4 : Int32) ≤ x2
          · rw [if_pos c2, e8]
          · exfalso
            apply q
            refine ⟨Int32.not_lt.mp c1, ?_⟩
            have := Int32.not_le.mp c2
            rw [Int32.lt_iff_toInt_lt] at this
            rw [Int32.le_iff_toInt_le]
            have e2 : (4 : Int32).toInt = 4 := rfl
            have e3 : (3 : Int32).toInt = 3 := rfl
            omega
end
