/-! flat, flatIf: both sides -/
section
variable {N z t u s tl r a b c d k n j h m l p q0 : Nat} {Y Y' : bk_Lay} {V V' : bk_Val} {x y x1 x2 x3 x4 x5 : Int32} {D : Nat → Nat → Nat} {P : Nat → List Nat} {T : Nat → Nat} {st : pk_St} {hs : List pk_St} {img : Option (pk_St × List pk_St)} {pl : Option (Nat → Nat)} {fp r0 r1 : Int32} {A : pk_A}
theorem pc_flat (hN : 20000 ≤ N) (hJ : pk_JC z Y V t u s D P T tl st hs img pl fp r0 r1) (hB : pk_JB D P T tl st hs img) (ha : a < 64) (hl : l < 2) : ∃ V2, q_X11_minutesTillFlat N Y V z (nI a) (nI l) = some (pk_on (sp_flat D P a st.1 st.2.1 l), V2) ∧ pk_fr t V V2 := by
  obtain ⟨hM, hS, hz, hT, hs5, -⟩ := hJ.o
  have hn := hJ.ne
  have hrg := hJ.2.2.2.2.2.1.hd.1.1
  have hp : st.1 ≤ 100000 := hB.2.2.1.1.1
  let f : Nat → Bool := fun k => decide (sp_pr D P a st.1 st.2.1 l k < 10000)
  by_cases c0 : st.1 < 10000
  · refine ⟨V, ?_, pk_fr.rf⟩
    simp (disch := omega) only [q_X11_minutesTillFlat, hM, hz, hs5, pk_ckT, pk_bs, pk_letE, pk_bd2E, pk_bd3E, if_true, if_false, eq_self, not_true_eq_false, not_false_eq_true, true_and, and_true, Nat.not_lt_zero, Nat.zero_le, Nat.reduceEqDiff, Nat.reduceLT, Nat.reduceLeDiff, pk_ck, pk_lit, nI_add, pk_mul, nI_clamp, nI_leI, nI_ltI, nI_eq, pk_div, pk_remE, pk_inE, pk_sub]
    rw [if_neg (by omega), sp_flat, sp_find, if_pos (show decide (sp_pr D P a st.1 st.2.1 l 0 < 10000) = true from decide_eq_true c0)]
    rfl
  · have L := loop_i (σ := bk_Val) (fun n i W => ∃ V2, q_X11_minutesTillFlat_30 N Y n W z (nI a) (nI l) (nI (sp_pr D P a st.1 st.2.1 l i)) (pk_B (a = 0 ∨ 10003 ∉ P 0)) (nI i) = some (pk_on (sp_find f (i + 1) (2000 - i)), V2) ∧ pk_fr t V V2)
      (fun i W => pk_fr t V W ∧ f i = false) 2000 ?_ ?_ N 0 V (by omega) (by omega) ⟨pk_fr.rf, decide_eq_false c0⟩
    · obtain ⟨V2, e1, f1⟩ := L
      refine ⟨V2, ?_, f1⟩
      simp (disch := omega) only [q_X11_minutesTillFlat, hM, hz, hs5, hS, pk_ckT, pk_bs, pk_letE, pk_bd2E, pk_bd3E, if_true, if_false, eq_self, not_true_eq_false, not_false_eq_true, true_and, and_true, Nat.not_lt_zero, Nat.zero_le, Nat.reduceEqDiff, Nat.reduceLT, Nat.reduceLeDiff, pk_ck, pk_lit, nI_add, pk_mul, nI_clamp, nI_leI, nI_ltI, nI_eq, pk_div, pk_remE, pk_inE, pk_sub, pc_alike (show 1000 ≤ N by omega) hS hT hB.1 ha]
      rw [if_pos (by omega)]
      have e2 : sp_flat D P a st.1 st.2.1 l = sp_find f (0 + 1) (2000 - 0) := by
        unfold sp_flat
        rw [sp_find, if_neg (by rw [decide_eq_true_iff]; exact c0)]
      rw [e2]
      exact e1
    · intro n W hW
      refine ⟨W, ?_, hW.1⟩
      simp (disch := omega) only [q_X11_minutesTillFlat_30, pk_ckT, pk_bs, pk_letE, pk_bd2E, pk_bd3E, if_true, if_false, eq_self, not_true_eq_false, not_false_eq_true, true_and, and_true, Nat.not_lt_zero, Nat.zero_le, Nat.reduceEqDiff, Nat.reduceLT, Nat.reduceLeDiff, pk_ck, pk_lit, nI_add, pk_mul, nI_clamp, nI_leI, nI_ltI, nI_eq, pk_div, pk_remE, pk_inE, pk_sub, Nat.le_refl]
      rfl
    · intro n i W hi hW ih
      have T1 := hT.fr hW.1
      have hpi : sp_pr D P a st.1 st.2.1 l i ≤ 100000 := Nat.le_trans (sp_pr_le i) hp
      obtain ⟨V2, e1, f1⟩ := pc_goneBy (N := N) (s := a) (p := sp_pr D P a st.1 st.2.1 l i) (m := st.2.1 + i) (l := l) (by omega) hS T1 hB.1 (by omega) hpi hl
      have f2 := hW.1.tr f1
      have rs : bk_rI W s 2 = nI st.2.1 := by
        rw [← hs5.2.2.1]
        exact congrFun (hW.1.2 s (by omega) (by omega) (by omega)) 2
      have hg := sp_gone_le (D := D) (P := P) (s := a) (p := sp_pr D P a st.1 st.2.1 l i) (m := st.2.1 + i) (l := l)
      have hf : ¬ sp_pr D P a st.1 st.2.1 l i < 10000 := of_decide_eq_false hW.2
      rw [q_X11_minutesTillFlat_30]
      simp (disch := omega) only [hM, hz, hs5, hS, pk_ckT, pk_bs, pk_letE, pk_bd2E, pk_bd3E, if_true, if_false, eq_self, not_true_eq_false, not_false_eq_true, true_and, and_true, Nat.not_lt_zero, Nat.zero_le, Nat.reduceEqDiff, Nat.reduceLT, Nat.reduceLeDiff, pk_ck, rs, pk_lit, nI_add, e1, nI_leI, nI_eq, pk_B0]
      rw [if_neg (by omega)]
      have step : ∃ V2', q_X11_minutesTillFlat_72 N Y (q_X11_minutesTillFlat_30 N Y n) V2 z (nI a) (nI l) (nI (sp_pr D P a st.1 st.2.1 l i)) (pk_B (a = 0 ∨ 10003 ∉ P 0)) (nI i) (nI (sp_gone D P a (sp_pr D P a st.1 st.2.1 l i) (st.2.1 + i) l)) = some (pk_on (sp_find f (i + 1) (2000 - i)), V2') ∧ pk_fr t V V2' := by
        have e5 : sp_pr D P a st.1 st.2.1 l i - sp_gone D P a (sp_pr D P a st.1 st.2.1 l i) (st.2.1 + i) l = sp_pr D P a st.1 st.2.1 l (i + 1) := rfl
        simp (disch := omega) only [q_X11_minutesTillFlat_72, pk_lit, pk_sub, nI_leI, nI_add, e5]
        have hle := sp_pr_le (D := D) (P := P) (s := a) (p := st.1) (m := st.2.1) (l := l) (i + 1)
        rw [show 2000 - i = (2000 - (i + 1)) + 1 by omega, sp_find]
        by_cases c : 10000 ≤ sp_pr D P a st.1 st.2.1 l (i + 1)
        · have fi : f (i + 1) = false := decide_eq_false (by omega)
          rw [if_pos c, if_neg (show ¬ f (i + 1) = true by rw [fi]; decide)]
          exact ih V2 ⟨f2, fi⟩
        · have fi : f (i + 1) = true := decide_eq_true (by omega)
          rw [if_neg c, if_pos fi]
          exact ⟨V2, rfl, f2⟩
      by_cases c1 : sp_gone D P a (sp_pr D P a st.1 st.2.1 l i) (st.2.1 + i) l = 0
      · rw [if_pos c1]
        by_cases c2 : a = 0 ∨ 10003 ∉ P 0
        · rw [if_neg (fun q => q c2)]
          refine ⟨V2, ?_, f2⟩
          rw [sp_find_none]
          · rfl
          · intro j h1 h2
            have := sp_pr_stay (D := D) (p := st.1) (m := st.2.1) (l := l) c2 i c1 (j - i)
            rw [show i + (j - i) = j by omega] at this
            exact decide_eq_false (by rw [this]; exact hf)
        · rw [if_pos c2]
          exact step
      · rw [if_neg c1]
        exact step
theorem pr_flat (hN : 20000 ≤ N) (hS : pk_Rf Y r) (hR : pk_JR r V D P T tl st hs img pl fp r0 r1) (hB : pk_JB D P T tl st hs img) (ha : a < 64) (hl : l < 2) : ∃ V2, q_X12_flatBy N Y V r (nI a) (nI l) = some (pk_on (sp_flat D P a st.1 st.2.1 l), V2) ∧ pk_frR r V V2 := by
  have hp : st.1 ≤ 100000 := hB.2.2.1.1.1
  let f : Nat → Bool := fun k => decide (sp_pr D P a st.1 st.2.1 l k < 10000)
  have L := loop_i (σ := bk_Val) (fun n i W => ∃ V2, q_X12_flatBy_8 N Y n W r (nI a) (nI l) (nI (sp_pr D P a st.1 st.2.1 l i)) (nI i) = some (pk_on (sp_find f i (2001 - i)), V2) ∧ pk_frR r V V2)
    (fun i W => pk_frR r V W) 2001 ?_ ?_ N 0 V (by omega) (by omega) pk_frR.rf
  · obtain ⟨V2, e1, f1⟩ := L
    refine ⟨V2, ?_, f1⟩
    simp only [q_X12_flatBy, hS, pk_ckT, eq_self, hR.2.2.1.1]
    exact e1
  · intro n W hW
    refine ⟨W, ?_, hW⟩
    simp (disch := omega) only [q_X12_flatBy_8, pk_ckT, pk_bs, pk_letE, pk_bd2E, pk_bd3E, if_true, if_false, eq_self, not_true_eq_false, not_false_eq_true, true_and, and_true, Nat.not_lt_zero, Nat.zero_le, Nat.reduceEqDiff, Nat.reduceLT, Nat.reduceLeDiff, pk_ck, pk_lit, nI_add, pk_mul, nI_clamp, nI_leI, nI_ltI, nI_eq, pk_div, pk_remE, pk_inE, pk_sub]
    rfl
  · intro n i W hi hW ih
    have T1 := hR.1.fr hW
    have hpi : sp_pr D P a st.1 st.2.1 l i ≤ 100000 := Nat.le_trans (sp_pr_le i) hp
    obtain ⟨V2, e1, f1⟩ := pr_goneBy (N := N) (s := a) (p := sp_pr D P a st.1 st.2.1 l i) (m := st.2.1 + i) (l := l) (by omega) hS T1 hB.1 (by omega) hpi hl
    have rs : bk_rI W r 59 = nI st.2.1 := by
      rw [← hR.2.2.1.2.1]
      exact hW.2.1 59 (by omega) (by omega) (by omega) (by omega)
    have hg := sp_gone_le (D := D) (P := P) (s := a) (p := sp_pr D P a st.1 st.2.1 l i) (m := st.2.1 + i) (l := l)
    have e5 : sp_pr D P a st.1 st.2.1 l i - sp_gone D P a (sp_pr D P a st.1 st.2.1 l i) (st.2.1 + i) l = sp_pr D P a st.1 st.2.1 l (i + 1) := rfl
    rw [q_X12_flatBy_8]
    simp (disch := omega) only [hS, pk_ckT, pk_bs, pk_letE, pk_bd2E, pk_bd3E, if_true, if_false, eq_self, not_true_eq_false, not_false_eq_true, true_and, and_true, Nat.not_lt_zero, Nat.zero_le, Nat.reduceEqDiff, Nat.reduceLT, Nat.reduceLeDiff, pk_ck, rs, pk_lit, nI_add, e1, nI_leI, nI_ltI, pk_sub, e5]
    rw [if_neg (by omega), show 2001 - i = (2001 - (i + 1)) + 1 by omega, sp_find]
    by_cases c : 10000 ≤ sp_pr D P a st.1 st.2.1 l i
    · rw [if_pos c, if_neg (show ¬ f i = true from fun q => by have := of_decide_eq_true q; omega)]
      exact ih V2 (hW.tr f1)
    · rw [if_neg c, if_pos (show f i = true from decide_eq_true (by omega))]
      exact ⟨W, rfl, hW⟩
theorem st_9 (hN : 20000 ≤ N) (hI : pk_IA z Y V) : bk_st9 N z (z + 58) (z + 86) Y V x1 x2 x3 x4 x5 (pk_IA z) := by
  obtain ⟨t, u, s, D, P, T, tl, st, hs, img, pl, fp, r0, r1, hJ, hR, hB, hC, hRA, hBA⟩ := hI.e
  obtain ⟨hM, hS, hz, hT, hs5, -⟩ := hJ.o
  have hl := sp_l_lt (x := x1)
  have hlk := sp_lk_lt (md := st.2.2.1) (l := sp_l x1) hB.1
  unfold bk_st9
  rw [pk_bl]
  obtain ⟨V1, e1, f1⟩ := pc_flat hN hJ hB hlk hl
  have hC1 := pk_CA.fr hJ f1
  have hRA1 := hRA.off hC1.2
  have hRf := hC1.1.rf.1
  have h3 : pk_JR (z + 58) (bk_wI V1 (z + 58) 0 (nI 0)) D P T tl st hs img pl fp r0 r1 := pk_JR.w0 hRA1
  obtain ⟨V2, e2, f2⟩ := pr_flat hN hRf h3 hB hlk hl
  refine ⟨pk_on (sp_flat D P (sp_lk D st.2.2.1 (sp_l x1)) st.1 st.2.1 (sp_l x1)), V1, ?_, hRf.1, _, V2, ?_, rfl, (pk_RO.fr hRA1 f2).I hC1.1 hBA⟩
  · simp only [q_X11_flat, hM, pk_ckT, eq_self, pk_bs, pc_lk (show 1000 ≤ N by omega) hJ hB hl, e1, pk_bd2E]
  · simp only [q_X12_flat, hRf, pk_ckT, eq_self, pk_bs, pk_letE, pk_lit, pr_lk (show 1000 ≤ N by omega) hRf h3 hB hl, e2, pk_bd2E]
end
