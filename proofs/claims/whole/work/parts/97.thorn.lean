/-! thorn -/
section
variable {N z t u s tl r a b c d k n j h m l p q q0 md wa s' i f e gg v : Nat} {Y Y' : bk_Lay} {V V' V2 W : bk_Val} {x y x1 x2 x3 x4 x5 : Int32} {w1 w2 : Int64} {D : Nat → Nat → Nat} {P : Nat → List Nat} {T T' w R G : Nat → Nat} {st st' g : pk_St} {hs hs' : List pk_St} {img img' : Option (pk_St × List pk_St)} {pl : Option (Nat → Nat)} {fp r0 r1 : Int32} {A B : pk_A}
def sp_ra (v : Nat) : Nat := min (10 * v) 1000000000000000
theorem pc_raise (hs : bk_sh Y wa = (3, n)) (hn : n ≤ 336) (hi : 4 * i < n) (hv : v ≤ 1000000000000000) (hw : bk_rL V wa (4 * i) = lN v) : q_X0_raiseOuter N Y V wa (nI i) = some (bk_wL V wa (4 * i) (lN (sp_ra v))) := by
  unfold q_X0_raiseOuter q_J9_min_f86c9
  simp (disch := omega) only [hs, pk_ckT, pk_bs, pk_letE, pk_bd2E, pk_bd3E, if_true, if_false, eq_self, not_true_eq_false, not_false_eq_true, true_and, and_true, Nat.not_lt_zero, Nat.zero_le, Nat.reduceEqDiff, Nat.reduceLT, Nat.reduceLeDiff, pk_ck, pk_lit, nI_add, pk_mul, nI_clamp, nI_leI, nI_ltI, nI_eq, pk_div, pk_remE, pk_inE, pk_sub, Nat.add_zero, hw]
  rw [if_neg (by omega)]
  simp (disch := omega) only [pk_litL, lN_mul, pk_cmpG, pk_lLT]
  unfold sp_ra
  by_cases c : 1000000000000000 < 10 * v
  · rw [if_pos c, pk_bs, Nat.min_eq_right (by omega)]
  · rw [if_neg c, pk_bs, Nat.min_eq_left (by omega)]
abbrev sp_o1 (D : Nat → Nat → Nat) (i : Nat) : Nat := (i + D 0 0 - D 0 5) % D 0 0
abbrev sp_o2 (D : Nat → Nat → Nat) (i : Nat) : Nat := (D 0 5 + D 0 0 - i) % D 0 0
def sp_thn (D : Nat → Nat → Nat) (w : Nat → Nat) (i : Nat) : Nat → Nat := fun p => if p % 4 = 0 ∧ (p / 4 = sp_o1 D i ∨ p / 4 = sp_o2 D i) then sp_ra (w p) else w p
theorem sp_ra_le : sp_ra v ≤ 1000000000000000 := Nat.min_le_right _ _
theorem sp_thn_le (hF : ∀ p, w p ≤ 1000000000000000) (p : Nat) : sp_thn D w i p ≤ 1000000000000000 := by
  unfold sp_thn
  split
  · exact sp_ra_le
  · exact hF p
theorem sp_mdd (ha : a < 2 * d) : a % d = if a < d then a else a - d := by
  by_cases c : a < d
  · rw [if_pos c, Nat.mod_eq_of_lt c]
  · rw [if_neg c, Nat.mod_eq_sub_mod (by omega), Nat.mod_eq_of_lt (by omega)]
theorem sp_o1E (h5 : D 0 5 < D 0 0) (hi : i < D 0 0) (hj : j < D 0 0) : ((D 0 5 + j) % D 0 0 = i) = (j = sp_o1 D i) := by
  apply propext
  rw [sp_o1, sp_mdd (show D 0 5 + j < 2 * D 0 0 by omega), sp_mdd (show i + D 0 0 - D 0 5 < 2 * D 0 0 by omega)]
  split <;> split <;> omega
theorem sp_o2E (h5 : D 0 5 < D 0 0) (hi : i < D 0 0) (hj : j < D 0 0) : ((D 0 5 + D 0 0 - j) % D 0 0 = i) = (j = sp_o2 D i) := by
  apply propext
  by_cases c1 : D 0 5 + D 0 0 - j < 2 * D 0 0
  · by_cases c2 : D 0 5 + D 0 0 - i < 2 * D 0 0
    · rw [sp_o2, sp_mdd c1, sp_mdd c2]
      split <;> split <;> omega
    · omega
  · omega
theorem pr_th24 (hN : 1000 ≤ N) (hS : pk_Rf Y r) (h1 : bk_rI V r 1 = nI (D 0 0)) (h6 : bk_rI V r 6 = nI (D 0 5)) (hB : pk_DB D P) (hi : i < D 0 0) (hF : ∀ p, w p ≤ 1000000000000000) (hw : ∀ p, p < 336 → bk_rL V (r + 15) p = lN (w p)) : ∃ V', q_X12_thorn_24 N Y N V r (nI i) 0 = some (nI (sp_best (sp_thn D w i) (4 * D 0 0)), V') ∧ V'.1 = V.1 ∧ (∀ c, c ≠ r + 15 → V'.2 c = V.2 c) ∧ ∀ p, p < 336 → bk_rL V' (r + 15) p = lN (sp_thn D w i p) := by
  have b0 := hB.1
  have b5 : D 0 5 < D 0 0 := hB.2.2.2.2.2.1
  have hG := sp_thn_le (D := D) (w := w) (i := i) hF
  have ho1 : sp_o1 D i < D 0 0 := Nat.mod_lt _ (by omega)
  have ho2 : sp_o2 D i < D 0 0 := Nat.mod_lt _ (by omega)
  refine loop_i (σ := bk_Val) (fun fu j V1 => ∃ V', q_X12_thorn_24 N Y fu V1 r (nI i) (nI j) = some (nI (sp_best (sp_thn D w i) (4 * D 0 0)), V') ∧ V'.1 = V.1 ∧ (∀ c, c ≠ r + 15 → V'.2 c = V.2 c) ∧ ∀ p, p < 336 → bk_rL V' (r + 15) p = lN (sp_thn D w i p)) (fun j V1 => V1.1 = V.1 ∧ (∀ c, c ≠ r + 15 → V1.2 c = V.2 c) ∧ ∀ p, p < 336 → bk_rL V1 (r + 15) p = lN (if p / 4 < j then sp_thn D w i p else w p)) (D 0 0) ?_ ?_ N 0 V (by omega) (by omega) ⟨rfl, fun _ _ => rfl, fun p hp => by rw [if_neg (by omega)]; exact hw p hp⟩
  · intro fu V1 hV
    have g1 : bk_rI V1 r 1 = nI (D 0 0) := by rw [← h1]; unfold bk_rI; rw [hV.1]
    have hv : ∀ p, p < 336 → bk_rL V1 (r + 15) p = lN (sp_thn D w i p) := fun p hp => by
      rw [hV.2.2 p hp]
      by_cases c : p / 4 < D 0 0
      · rw [if_pos c]
      · rw [if_neg c]
        unfold sp_thn
        rw [if_neg (fun q => by have := q.2; omega)]
    refine ⟨V1, ?_, hV.1, hV.2.1, hv⟩
    rw [q_X12_thorn_24, pk_ck hS.1, g1, if_pos (nI_le (by omega) (by omega)), pr_likeliest (w := sp_thn D w i) hN hS g1 b0 (fun p => Nat.le_trans (hG p) (by omega)) (fun p hp => hv p (by omega)), pk_bs]
  · intro fu j V1 hj hV ih
    have g1 : bk_rI V1 r 1 = nI (D 0 0) := by rw [← h1]; unfold bk_rI; rw [hV.1]
    have g6 : bk_rI V1 r 6 = nI (D 0 5) := by rw [← h6]; unfold bk_rI; rw [hV.1]
    have e1 := hV.2.2 (4 * j) (by omega)
    rw [if_neg (by omega)] at e1
    have hF1 := hF (4 * j)
    have t70 : (j = sp_o1 D i ∨ j = sp_o2 D i) → ∃ V', q_X12_thorn_70 N Y (q_X12_thorn_24 N Y fu) V1 r (nI i) (nI j) = some (nI (sp_best (sp_thn D w i) (4 * D 0 0)), V') ∧ V'.1 = V.1 ∧ (∀ c, c ≠ r + 15 → V'.2 c = V.2 c) ∧ ∀ p, p < 336 → bk_rL V' (r + 15) p = lN (sp_thn D w i p) := by
      intro hj2
      have ih' := ih (bk_wL V1 (r + 15) (4 * j) (lN (sp_ra (w (4 * j))))) ⟨hV.1, fun d hd => (pk_rowL (by omega)).trans (hV.2.1 d hd), fun p hp => by
        rw [pk_rL_same]
        by_cases cp : p = 4 * j
        · rw [if_pos cp, if_pos (by omega), cp]
          unfold sp_thn
          rw [if_pos ⟨by omega, by rw [show 4 * j / 4 = j by omega]; exact hj2⟩]
        · rw [if_neg cp, hV.2.2 p hp]
          by_cases c2 : p / 4 < j
          · rw [if_pos c2, if_pos (by omega)]
          · rw [if_neg c2]
            by_cases c3 : p / 4 < j + 1
            · rw [if_pos c3]
              unfold sp_thn
              rw [if_neg (fun q => by have := q.1; omega)]
            · rw [if_neg c3]⟩
      unfold q_X12_thorn_70
      simp (disch := omega) only [hS, pk_ckT, pk_bs, pk_letE, pk_bd2E, pk_bd3E, if_true, if_false, eq_self, not_true_eq_false, not_false_eq_true, true_and, and_true, Nat.not_lt_zero, Nat.zero_le, Nat.reduceEqDiff, Nat.reduceLT, Nat.reduceLeDiff, pk_ck, pk_lit, nI_add, pk_mul, nI_clamp, nI_leI, nI_ltI, nI_eq, pk_div, pk_remE, pk_inE, pk_sub, e1, q_X12_thorn_110, q_X12_thorn_111]
      simp (disch := omega) only [pk_litL, lN_mul, pk_cmpL, pk_lLE]
      unfold sp_ra at ih'
      by_cases c : w (4 * j) ≤ 100000000000000
      · rw [if_pos c]
        rw [Nat.min_eq_left (by omega)] at ih'
        exact ih'
      · rw [if_neg c]
        rw [Nat.min_eq_right (by omega)] at ih'
        exact ih'
    rw [q_X12_thorn_24]
    simp (disch := omega) only [hS, g1, g6, pk_ckT, pk_bs, pk_letE, pk_bd2E, pk_bd3E, if_true, if_false, eq_self, not_true_eq_false, not_false_eq_true, true_and, and_true, Nat.not_lt_zero, Nat.zero_le, Nat.reduceEqDiff, Nat.reduceLT, Nat.reduceLeDiff, pk_ck, nI_leI, nI_add, pk_sub, pk_remE, nI_eq, Nat.mod_lt, pk_lit]
    rw [if_neg (by omega)]
    have hm1 : (D 0 5 + j) % D 0 0 < 2 ^ 31 := Nat.lt_of_lt_of_le (Nat.mod_lt _ (by omega)) (by omega)
    have hm2 : (D 0 5 + D 0 0 - j) % D 0 0 < 2 ^ 31 := Nat.lt_of_lt_of_le (Nat.mod_lt _ (by omega)) (by omega)
    simp only [nI_eq hm1 (show i < 2 ^ 31 by omega), nI_eq hm2 (show i < 2 ^ 31 by omega), sp_o1E b5 hi hj, sp_o2E b5 hi hj]
    by_cases c1 : j = sp_o1 D i
    · rw [if_pos c1]
      exact t70 (Or.inl c1)
    · rw [if_neg c1]
      by_cases c2 : j = sp_o2 D i
      · rw [if_pos c2]
        exact t70 (Or.inr c2)
      · rw [if_neg c2, q_X12_thorn_111, show nI j + 1 = nI (j + 1) from nI_add j 1]
        refine ih _ ⟨hV.1, hV.2.1, fun p hp => ?_⟩
        rw [hV.2.2 p hp]
        by_cases cp : p / 4 = j
        · rw [if_neg (by omega), if_pos (by omega)]
          unfold sp_thn
          rw [if_neg (fun q => by rw [cp] at q; exact q.2.elim c1 c2)]
        · by_cases c2 : p / 4 < j
          · rw [if_pos c2, if_pos (by omega)]
          · rw [if_neg c2, if_neg (by omega)]
theorem st_32 (hN : 20000 ≤ N) (hI : pk_IA z Y V) : bk_st32 N z (z + 58) (z + 86) Y V x1 x2 x3 x4 x5 (pk_IA z) := by
  obtain ⟨t, u, s, D, P, T, tl, st, hs, img, pl, fp, r0, r1, hJ, hR, hB, hC, hRA, hBA⟩ := hI.e
  obtain ⟨hM, hS, hz, hT, hs5, -⟩ := hJ.o
  have b0 := hB.1.1
  have b5 : D 0 5 < D 0 0 := hB.1.2.2.2.2.2.1
  unfold bk_st32
  rcases pk_ix2 x1 (n := D 0 0) (by omega) with hx | ⟨i, hi, rfl⟩
  · have ho : ¬ (nI 0 ≤ x1 ∧ x1 ≤ nI (D 0 0 - 1)) := pk_out hx (by omega) (by omega)
    refine pk_rfs (N := N) (qR := fun Y1 V1 => q_X12_thorn N Y1 V1 (z + 58) x1) hJ hRA hB ?_ (fun V1 hRf hR1 => ?_)
    · simp only [q_X11_thorn, hM, pk_ckT, eq_self, pc_isInch hM hz.1 hS hT hB.1, pk_bs, pk_lit, pk_B0]
      rw [if_pos ho]
    · simp only [q_X12_thorn, hRf, pk_ckT, eq_self, pk_letE, pk_lit, pr_isInchN hRf hR1.1.1.1 hx, pk_bs, pk_B0, not_false_eq_true, if_true]
  · have hin := pk_inn hi (by omega) (show D 0 0 - 1 + 1 = D 0 0 by omega)
    have hF := hB.2.2.1.1.2.2.1
    have hFz := hB.2.2.1.1.2.2.2
    have ho1 : sp_o1 D i < D 0 0 := Nat.mod_lt _ (by omega)
    have ho2 : sp_o2 D i < D 0 0 := Nat.mod_lt _ (by omega)
    refine pk_wrs (N := N) (G := sp_thn D st.2.2.2 i) (qR := fun Y1 V1 => q_X12_thorn N Y1 V1 (z + 58) (nI i)) hN hJ hRA hB (sp_thn_le hF) (fun p hp => ?_) (fun wa w1 w3 j1 j4 hv => ?_) (fun Y' V' V4 hRf hR1 k1 k2 => ?_)
    · unfold sp_thn
      rw [if_neg (fun g => by have := g.2; omega)]
      exact hFz p hp
    · have hsh : (bk_sh Y wa).1 = 3 ∧ (bk_sh Y wa).2 = 4 * D 0 0 := by rw [w3]; exact ⟨rfl, rfl⟩
      have m1 := j1.sd.1
      have r1 := pc_roundS (N := N) (a := i) (b := D 0 5) hS hT hB.1 (by omega) b5
      have r2 := pc_roundS (N := N) (a := D 0 5) (b := i) hS hT hB.1 (by omega) hi
      have u1 := pc_raise (N := N) (i := sp_o1 D i) j4 (by omega) (by omega) (hF _) (hv (4 * sp_o1 D i) (by omega))
      have e0 : q_X11_thorn N Y V z (nI i) = if nI (sp_o2 D i) = nI (sp_o1 D i) then q_X11_thorn_79 N (bk_nw Y (3, 4 * D 0 0)) (bk_wL (bk_nc Y V wa) (bk_sz Y) (4 * sp_o1 D i) (lN (sp_ra (st.2.2.2 (4 * sp_o1 D i))))) z (bk_sz Y) else Option.bind (q_X0_raiseOuter N (bk_nw Y (3, 4 * D 0 0)) (bk_wL (bk_nc Y V wa) (bk_sz Y) (4 * sp_o1 D i) (lN (sp_ra (st.2.2.2 (4 * sp_o1 D i))))) (bk_sz Y) (nI (sp_o2 D i))) fun V_37 => q_X11_thorn_79 N (bk_nw Y (3, 4 * D 0 0)) V_37 z (bk_sz Y) := by
        simp only [q_X11_thorn, hM, hz, hS, pk_ckT, eq_self, pc_isInch hM hz.1 hS hT hB.1, pk_bs, pk_lit, pk_B0, pc_mark hS hT, r1, r2]
        rw [if_neg (fun g => g hin), pk_ck hs5.1, w1, pk_bs, pk_ck hsh.1, hsh.2, pk_ck (by omega), pk_letE, pk_letE, pk_letE, pk_ck (by rw [j4]), u1, pk_bs]
      rw [e0]
      simp only [nI_eq (show sp_o2 D i < 2 ^ 31 by omega) (show sp_o1 D i < 2 ^ 31 by omega)]
      by_cases c : sp_o2 D i = sp_o1 D i
      · refine ⟨(bk_wL (bk_nc Y V wa) (bk_sz Y) (4 * sp_o1 D i) (lN (sp_ra (st.2.2.2 (4 * sp_o1 D i))))), by rw [if_pos c, q_X11_thorn_79, pk_ck m1.1], rfl, fun b hb => pk_rowL hb, fun p hp => ?_⟩
        rw [pk_rL_same]
        unfold sp_thn
        by_cases cp : p = 4 * sp_o1 D i
        · rw [if_pos cp, if_pos (by omega), cp]
        · rw [if_neg cp, if_neg (by omega)]
          exact hv p hp
      · have hv2 : bk_rL (bk_wL (bk_nc Y V wa) (bk_sz Y) (4 * sp_o1 D i) (lN (sp_ra (st.2.2.2 (4 * sp_o1 D i))))) (bk_sz Y) (4 * sp_o2 D i) = lN (st.2.2.2 (4 * sp_o2 D i)) := by
          rw [pk_rL_same, if_neg (by omega)]
          exact hv _ (by omega)
        have u2 := pc_raise (N := N) (i := sp_o2 D i) j4 (by omega) (by omega) (hF _) hv2
        refine ⟨(bk_wL (bk_wL (bk_nc Y V wa) (bk_sz Y) (4 * sp_o1 D i) (lN (sp_ra (st.2.2.2 (4 * sp_o1 D i))))) (bk_sz Y) (4 * sp_o2 D i) (lN (sp_ra (st.2.2.2 (4 * sp_o2 D i))))), by rw [if_neg c, u2, pk_bs, q_X11_thorn_79, pk_ck m1.1], rfl, fun b hb => (pk_rowL hb).trans (pk_rowL hb), fun p hp => ?_⟩
        rw [pk_rL_same, pk_rL_same]
        unfold sp_thn
        by_cases cp : p = 4 * sp_o2 D i
        · rw [if_pos cp, if_pos (by omega), cp]
        · rw [if_neg cp]
          by_cases cq : p = 4 * sp_o1 D i
          · rw [if_pos cq, if_pos (by omega), cq]
          · rw [if_neg cq, if_neg (by omega)]
            exact hv p hp
    · obtain ⟨V5, l1, l2⟩ := pr_th24 (N := N) (Y := Y') (V := V4) (r := z + 58) (i := i) (w := st.2.2.2) (by omega) hRf k2.1.1.1 k2.1.1.2.2.2.2.2.1 hB.1 hi hF k2.2.2.1.2.2.2
      refine ⟨V5, ?_, l2⟩
      simp only [q_X12_thorn, hRf, pk_ckT, eq_self, pk_letE, pk_lit, pr_isInchY hRf hR1.1.1.1 b0.2 hi, pk_bs, pk_B0, not_true_eq_false, if_false, k1]
      exact l1
end
