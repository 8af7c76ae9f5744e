/-! minutes, pump: the steps -/
section
variable {N z t u s tl r a b c d k n j h m l p q0 md wa : Nat} {Y Y' : bk_Lay} {V V' V2 W : bk_Val} {x y x1 x2 x3 x4 x5 : Int32} {D : Nat → Nat → Nat} {P : Nat → List Nat} {T w : Nat → Nat} {st st' : pk_St} {hs hs' : List pk_St} {img : Option (pk_St × List pk_St)} {pl : Option (Nat → Nat)} {fp r0 r1 : Int32} {A B : pk_A}
theorem pk_HB.act (h : pk_HB D st hs) (h2 : pk_SB D st') : pk_HB D st' ((st :: hs).take 40) := by
  refine ⟨h2, fun g hg => ?_, by rw [List.length_take]; omega⟩
  rcases List.mem_cons.mp (List.mem_of_mem_take hg) with rfl | hg
  · exact h.1
  · exact h.2.1 g hg
theorem pk_JB.act (h : pk_JB D P T tl st hs img) (h2 : pk_SB D st') : pk_JB D P T tl st' ((st :: hs).take 40) img := ⟨h.1, h.2.1, h.2.2.1.act h2, h.2.2.2⟩
theorem pk_CS.ww (h : pk_CS z Y V d s st) : ∃ wa, bk_rR Y s 4 = some wa ∧ pk_rg z Y wa ∧ bk_sh Y wa = (3, 4 * d) ∧ ∀ p, p < 4 * d → bk_rL V wa p = lN (st.2.2.2 p) := h.2.2.2.2.2
theorem pk_JC.ww (h : pk_JC z Y V t u s D P T tl st hs img pl fp r0 r1) : ∃ wa, bk_rR Y s 4 = some wa ∧ pk_rg z Y wa ∧ bk_sh Y wa = (3, 4 * D 0 0) ∧ ∀ p, p < 4 * D 0 0 → bk_rL V wa p = lN (st.2.2.2 p) := h.2.2.2.2.2.1.hd.ww
/-- the class's tube, written beside: JC again -/
theorem pk_JC.fr (h : pk_JC z Y V t u s D P T tl st hs img pl fp r0 r1) (f : pk_fr t V V') : pk_JC z Y V' t u s D P T tl st hs img pl fp r0 r1 := by
  have hn := h.ne
  exact h.of rfl rfl (Nat.le_refl _) (fun a _ _ q3 q4 q5 _ => f.2 a q3 q4 q5) (fun a _ _ => by rw [f.1]) (fun a _ => ⟨f.2 a (by omega) (by omega) (by omega), by rw [f.1]⟩)
theorem pk_JC.frO (h : pk_JC z Y V t u s D P T tl st hs img pl fp r0 r1) (f : pk_fr t V V') : pk_offR z V V' := (pk_CA.fr h f).2
theorem pk_offR.tr (h : pk_offR z V V') (h2 : pk_offR z V' V2) : pk_offR z V V2 := fun a q1 q2 => ⟨(h2 a q1 q2).1.trans (h a q1 q2).1, (h2 a q1 q2).2.trans (h a q1 q2).2⟩
theorem pc_minutes (hN : 20000 ≤ N) (hJ : pk_JC z Y V t u s D P T tl st hs img pl fp r0 r1) (hB : pk_JB D P T tl st hs img) (hk : 1 ≤ k) (hk2 : k ≤ 600) (hl : l < 2) : ∃ Y' V', q_X11_minutes N Y V z (nI k) (nI l) = some (nI (sp_pr D P (sp_lk D st.2.2.1 l) st.1 st.2.1 l k), Y', V') ∧ pk_CA z Y' V' (D, P, T, tl, (sp_pr D P (sp_lk D st.2.2.1 l) st.1 st.2.1 l k, st.2.1 + k, st.2.2.1, st.2.2.2), (st :: hs).take 40, img, pl, fp, r0, r1) ∧ pk_offR z V V' := by
  obtain ⟨hM, hS, hz, hT, hs5, -⟩ := hJ.o
  have hp : st.1 ≤ 100000 := hB.2.2.1.1.1
  have hlk := sp_lk_lt (md := st.2.2.1) (l := l) hB.1
  let a := sp_lk D st.2.2.1 l
  have L := loop_i (σ := bk_Val) (fun n i W => ∃ Y' V', q_X11_minutes_34 N n Y W z (nI k) (nI l) (nI a) (nI (sp_pr D P a st.1 st.2.1 l i)) (nI i) = some (nI (sp_pr D P a st.1 st.2.1 l k), Y', V') ∧ pk_CA z Y' V' (D, P, T, tl, (sp_pr D P a st.1 st.2.1 l k, st.2.1 + k, st.2.2.1, st.2.2.2), (st :: hs).take 40, img, pl, fp, r0, r1) ∧ pk_offR z V V')
    (fun i W => pk_fr t V W) k ?_ ?_ N 0 V (by omega) (by omega) pk_fr.rf
  · obtain ⟨Y', V', e1, e2⟩ := L
    refine ⟨Y', V', ?_, e2⟩
    simp only [q_X11_minutes, pc_isWithin, pk_bs, pk_lit, pk_B0]
    rw [if_neg (fun q => q ⟨nI_le (by omega) (by omega), nI_le (by omega) (by omega)⟩)]
    simp only [hM, hz, hs5, pk_ckT, eq_self, pk_bs, pc_lk (show 1000 ≤ N by omega) hJ hB hl]
    exact e1
  · intro n W hW
    have hJ1 := hJ.fr hW
    obtain ⟨-, -, -, -, hs6, -⟩ := hJ1.o
    obtain ⟨wa, w1, w2, w3, w4⟩ := hJ1.ww
    obtain ⟨Y', V', e1, e2, e3, e4, -⟩ := pc_keepAct (N := N) (p := sp_pr D P a st.1 st.2.1 l k) (m := st.2.1 + k) (md := st.2.2.1) (w := st.2.2.2) hJ1.j0 hB.2.2.1.2.2 w2 w3 w4
    refine ⟨Y', V', ?_, ⟨t, u, bk_sz Y, e2.jc (e3 _ hJ1.2.2.2.2.2.2.2.2.2.2)⟩, (hJ.frO hW).tr e4⟩
    rw [q_X11_minutes_34]
    simp (disch := omega) only [hM, hz, hs6, pk_ckT, pk_bs, pk_letE, pk_bd2E, pk_bd3E, if_true, if_false, eq_self, not_true_eq_false, not_false_eq_true, true_and, and_true, Nat.not_lt_zero, Nat.zero_le, Nat.reduceEqDiff, Nat.reduceLT, Nat.reduceLeDiff, pk_ck, w1, pk_lit, nI_add, nI_leI, Nat.le_refl, e1]
  · intro n i W hi hW ih
    have hJ1 := hJ.fr hW
    obtain ⟨-, -, -, hT1, hs6, -⟩ := hJ1.o
    have hpi : sp_pr D P a st.1 st.2.1 l i ≤ 100000 := Nat.le_trans (sp_pr_le i) hp
    obtain ⟨V2, e1, f1⟩ := pc_goneBy (N := N) (s := a) (p := sp_pr D P a st.1 st.2.1 l i) (m := st.2.1 + i) (l := l) (by omega) hS hT1 hB.1 (by omega) hpi hl
    have hg := sp_gone_le (D := D) (P := P) (s := a) (p := sp_pr D P a st.1 st.2.1 l i) (m := st.2.1 + i) (l := l)
    have e5 : sp_pr D P a st.1 st.2.1 l i - sp_gone D P a (sp_pr D P a st.1 st.2.1 l i) (st.2.1 + i) l = sp_pr D P a st.1 st.2.1 l (i + 1) := rfl
    rw [q_X11_minutes_34]
    simp (disch := omega) only [hM, hz, hs6, hS, pk_ckT, pk_bs, pk_letE, pk_bd2E, pk_bd3E, if_true, if_false, eq_self, not_true_eq_false, not_false_eq_true, true_and, and_true, Nat.not_lt_zero, Nat.zero_le, Nat.reduceEqDiff, Nat.reduceLT, Nat.reduceLeDiff, pk_ck, pk_lit, nI_add, nI_leI, e1, pk_sub, e5]
    rw [if_neg (by omega)]
    exact ih V2 (hW.tr f1)
theorem pr_minutes (hN : 20000 ≤ N) (hS : pk_Rf Y r) (hR : pk_JR r V D P T tl st hs img pl fp r0 r1) (hB : pk_JB D P T tl st hs img) (hk : 1 ≤ k) (hk2 : k ≤ 600) (hl : l < 2) : ∃ V', q_X12_minutes N Y V r (nI k) (nI l) = some (nI (sp_pr D P (sp_lk D st.2.2.1 l) st.1 st.2.1 l k), V') ∧ pk_out0 r V V' ∧ pk_JR r V' D P T tl (sp_pr D P (sp_lk D st.2.2.1 l) st.1 st.2.1 l k, st.2.1 + k, st.2.2.1, st.2.2.2) ((st :: hs).take 40) img pl fp r0 r1 := by
  have hp : st.1 ≤ 100000 := hB.2.2.1.1.1
  have hlk := sp_lk_lt (md := st.2.2.1) (l := l) hB.1
  let a := sp_lk D st.2.2.1 l
  obtain ⟨V1, k1, k2, k3⟩ := pr_keepsJ hN hS hR.w0 hB.2.2.1.2.2 (V := bk_wI V r 0 (nI 0))
  let S : Nat → pk_St := fun i => (sp_pr D P a st.1 st.2.1 l i, st.2.1 + i, st.2.2.1, st.2.2.2)
  have L := loop_i (σ := bk_Val) (fun n i W => ∃ V', q_X12_minutes_27 N Y n W r (nI k) (nI l) (nI i) = some (nI (sp_pr D P a st.1 st.2.1 l k), V') ∧ pk_out0 r V V' ∧ pk_JR r V' D P T tl (S k) ((st :: hs).take 40) img pl fp r0 r1)
    (fun i W => pk_out0 r V W ∧ pk_JR r W D P T tl (S i) ((st :: hs).take 40) img pl fp r0 r1) k ?_ ?_ N 0 V1 (by omega) (by omega) ⟨pk_out0.w0.frK k3, k2⟩
  · obtain ⟨V', e1, e2⟩ := L
    refine ⟨V', ?_, e2⟩
    simp only [q_X12_minutes, hS, pk_ckT, eq_self, pk_letE, pk_lit, pr_within, pk_bs, pk_B0, k1]
    rw [if_neg (fun q => q ⟨nI_le (by omega) (by omega), nI_le (by omega) (by omega)⟩)]
    exact e1
  · intro n W hW
    refine ⟨W, ?_, hW⟩
    have h58 : bk_rI W r 58 = nI (sp_pr D P a st.1 st.2.1 l k) := hW.2.2.2.1.1
    rw [q_X12_minutes_27]
    simp (disch := omega) only [hS, pk_ckT, pk_bs, pk_letE, pk_bd2E, pk_bd3E, if_true, if_false, eq_self, not_true_eq_false, not_false_eq_true, true_and, and_true, Nat.not_lt_zero, Nat.zero_le, Nat.reduceEqDiff, Nat.reduceLT, Nat.reduceLeDiff, pk_ck, pk_lit, nI_leI, Nat.le_refl, h58]
  · intro n i W hi hW ih
    obtain ⟨w1, w2⟩ := hW
    have h58 : bk_rI W r 58 = nI (sp_pr D P a st.1 st.2.1 l i) := w2.2.2.1.1
    have h59 : bk_rI W r 59 = nI (st.2.1 + i) := w2.2.2.1.2.1
    have h60 : bk_rI W r 60 = nI st.2.2.1 := w2.2.2.1.2.2.1
    have hpi : sp_pr D P a st.1 st.2.1 l i ≤ 100000 := Nat.le_trans (sp_pr_le i) hp
    have e0 : q_X12_leakers N Y W r (nI l) = some (nI a) := pr_leakers (N := N) (show 1000 ≤ N by omega) hS w2.1 hB.1 h60 hB.2.2.1.1.2.1 hl
    obtain ⟨V2, e1, f1⟩ := pr_goneBy (N := N) (s := a) (p := sp_pr D P a st.1 st.2.1 l i) (m := st.2.1 + i) (l := l) (by omega) hS w2.1 hB.1 (by omega) hpi hl
    have hg := sp_gone_le (D := D) (P := P) (s := a) (p := sp_pr D P a st.1 st.2.1 l i) (m := st.2.1 + i) (l := l)
    have e5 : sp_pr D P a st.1 st.2.1 l i - sp_gone D P a (sp_pr D P a st.1 st.2.1 l i) (st.2.1 + i) l = sp_pr D P a st.1 st.2.1 l (i + 1) := rfl
    have v59 : bk_rI V2 r 59 = nI (st.2.1 + i) := (f1.2.1 59 (by omega) (by omega) (by omega) (by omega)).trans h59
    rw [q_X12_minutes_27]
    simp (disch := omega) only [hS, pk_ckT, pk_bs, pk_letE, pk_bd2E, pk_bd3E, if_true, if_false, eq_self, not_true_eq_false, not_false_eq_true, true_and, and_true, Nat.not_lt_zero, Nat.zero_le, Nat.reduceEqDiff, Nat.reduceLT, Nat.reduceLeDiff, pk_ck, pk_lit, nI_leI, e0, h58, h59, e1, pk_rI_same, pk_rI_ne, pk_rI_wL, pk_rL_wI, pk_rL_same, pk_rL_ne, v59, pk_sub, e5, nI_add]
    rw [if_neg (by omega)]
    refine ih _ ⟨((w1.fr f1).wS (k := 58) (by decide)).wS (k := 59) (by decide), ?_⟩
    have w3 := w2.frr f1
    refine w3.sta (fun a q1 q2 q3 q4 q5 => ?_) (fun k q0 q1 q2 q3 q4 q5 q6 q7 => ?_) (fun a q1 q2 q3 q4 q5 q6 => rfl) ?_
    · rw [pk_rowI (by omega), pk_rowI (by omega)]
    · rw [pk_slot q2, pk_slot q1]
    · refine ⟨?_, ?_, ?_, w3.2.2.1.2.2.2⟩
      · rw [pk_rI_same, if_neg (by omega), pk_rI_same, if_pos rfl]
      · rw [pk_rI_same, if_pos rfl]
        rfl
      · rw [pk_rI_same, if_neg (by omega), pk_rI_same, if_neg (by omega)]
        exact w3.2.2.1.2.2.1
theorem pk_1in (h : ¬ (1 ≤ j ∧ j ≤ 600)) (hj : j < 601) : ¬ (nI 1 ≤ nI j ∧ nI j ≤ nI 600) := fun q => h ⟨(nI_leI (by omega) (by omega)).mp q.1, (nI_leI (by omega) (by omega)).mp q.2⟩
theorem pk_1out (h : x < 0 ∨ nI 601 ≤ x) : ¬ (nI 1 ≤ x ∧ x ≤ nI 600) := pk_out2 h (by decide) (by decide) (by decide)
theorem pk_in600 (x : Int32) : (¬ (nI 1 ≤ x ∧ x ≤ nI 600)) ∨ ∃ k, 1 ≤ k ∧ k ≤ 600 ∧ x = nI k := by
  rcases pk_ix2 x (n := 601) (by decide) with hx | ⟨j, hj, rfl⟩
  · exact Or.inl (pk_1out hx)
  · by_cases c : 1 ≤ j ∧ j ≤ 600
    · exact Or.inr ⟨j, c.1, c.2, rfl⟩
    · exact Or.inl (pk_1in c hj)
theorem st_6 (hN : 20000 ≤ N) (hI : pk_IA z Y V) : bk_st6 N z (z + 58) (z + 86) Y V x1 x2 x3 x4 x5 (pk_IA z) := by
  obtain ⟨t, u, s, D, P, T, tl, st, hs, img, pl, fp, r0, r1, hJ, hR, hB, hC, hRA, hBA⟩ := hI.e
  obtain ⟨hM, hS, hz, hT, hs5, -⟩ := hJ.o
  have hl := sp_l_lt (x := x2)
  unfold bk_st6
  rw [pk_bl]
  rcases pk_in600 x1 with hx | ⟨k, hk, hk2, rfl⟩
  · obtain ⟨e1, e2, e3⟩ := pc_refuse (N := N) hJ
    have hR1 : pk_JR (z + 58) _ D P T tl st hs img pl fp r0 r1 := hRA.off e3
    have hRf := e2.rf.1
    obtain ⟨e4, e5⟩ := pr_refuse (N := N) hRf hR1.w0 (V := bk_wI (bk_wI V z 14 (r1 + nI 1)) (z + 58) 0 (nI 0))
    refine ⟨-nI 1, Y, bk_wI V z 14 (r1 + nI 1), ?_, pk_stN e2 hB ⟨_, ?_, pk_out0.w0.wI (a := z + 58 + 7) (by omega) (by omega), e5⟩⟩
    · simp only [q_X11_minutes, pc_isWithin, pk_bs, pk_lit, pk_B0]
      rw [if_pos hx]
      simp only [hM, pk_ckT, eq_self, e1, pk_bd2E]
    · simp only [q_X12_minutes, hRf, pk_ckT, eq_self, pk_letE, pk_lit, pr_within, pk_bs, pk_B0]
      rw [if_pos hx, e4, pk_bd2E]
  · obtain ⟨Y', V', e1, e2, e3⟩ := pc_minutes hN hJ hB hk hk2 hl
    obtain ⟨V2, e4, e5, e6⟩ := pr_minutes (N := N) hN e2.rf.1 (show pk_JR (z + 58) V' D P T tl st hs img pl fp r0 r1 from hRA.off e3) hB hk hk2 hl
    refine ⟨_, Y', V', e1, pk_stN e2 (hB.act ?_) ⟨V2, e4, e5, e6⟩⟩
    exact ⟨Nat.le_trans (sp_pr_le _) hB.2.2.1.1.1, hB.2.2.1.1.2.1, hB.2.2.1.1.2.2.1, hB.2.2.1.1.2.2.2⟩
theorem st_7 (hN : 20000 ≤ N) (hI : pk_IA z Y V) : bk_st7 N z (z + 58) (z + 86) Y V x1 x2 x3 x4 x5 (pk_IA z) := by
  obtain ⟨t, u, s, D, P, T, tl, st, hs, img, pl, fp, r0, r1, hJ, hR, hB, hC, hRA, hBA⟩ := hI.e
  obtain ⟨hM, hS, hz, hT, hs5, -⟩ := hJ.o
  obtain ⟨wa, w1, w2, w3, w4⟩ := hJ.ww
  obtain ⟨Y', V', e1, e2, e3, e4, -⟩ := pc_keepAct (N := N) (p := 1000 * D 0 4) (m := st.2.1) (md := st.2.2.1) (w := st.2.2.2) hJ.j0 hB.2.2.1.2.2 w2 w3 w4
  have hC1 : pk_CA z Y' V' (D, P, T, tl, (1000 * D 0 4, st.2.1, st.2.2.1, st.2.2.2), (st :: hs).take 40, img, pl, fp, r0, r1) := ⟨t, u, bk_sz Y, e2.jc (e3 _ hJ.2.2.2.2.2.2.2.2.2.2)⟩
  have hR1 : pk_JR (z + 58) V' D P T tl st hs img pl fp r0 r1 := hRA.off e4
  have hRf := hC1.rf.1
  obtain ⟨V2, k1, k2, k3⟩ := pr_keepsJ hN hRf hR1.w0 hB.2.2.1.2.2 (V := bk_wI V' (z + 58) 0 (nI 0))
  have b5 := hB.1.2.2.2.2.1.2
  refine ⟨nI st.1, Y', V', ?_, pk_stN hC1 (hB.act ⟨by show 1000 * D 0 4 ≤ 100000; omega, hB.2.2.1.1.2.1, hB.2.2.1.1.2.2.1, hB.2.2.1.1.2.2.2⟩) ⟨bk_wI V2 (z + 58) 58 (nI (1000 * D 0 4)), ?_, (pk_out0.w0.frK k3).wS (k := 58) (by decide), ?_⟩⟩
  · simp only [q_X11_pump, hM, hz, hS, hs5, pk_ckT, eq_self, pk_bs, pc_full hS hT, w1, e1, pk_bd2E]
  · have h58 : bk_rI V2 (z + 58) 58 = nI st.1 := k2.2.2.1.1
    simp only [q_X12_pump, hRf, pk_ckT, eq_self, pk_letE, pk_lit, k1, pk_bs, k2.1.1, h58, pk_mul]
  · refine pk_JR.sta k2 (fun a q1 q2 q3 q4 q5 => pk_rowI (by omega)) (fun k q0 q1 q2 q3 q4 q5 q6 q7 => pk_slot q1) (fun a q1 q2 q3 q4 q5 q6 => rfl) ⟨by rw [pk_rI_same, if_pos rfl], ?_, ?_, k2.2.2.1.2.2.2⟩
    · rw [pk_rI_same, if_neg (by omega)]; exact k2.2.2.1.2.1
    · rw [pk_rI_same, if_neg (by omega)]; exact k2.2.2.1.2.2.1
end
