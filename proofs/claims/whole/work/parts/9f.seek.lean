/-! seek: the reference, the step -/
section
variable {N z t u s tl r a b c d k n j h m l p q q0 md wa s' i f e gg v S : Nat} {Y Y' : bk_Lay} {V V' V2 W : bk_Val} {x y x1 x2 x3 x4 x5 ee : Int32} {w1 w2 : Int64} {D : Nat → Nat → Nat} {P : Nat → List Nat} {T T' w R G In : Nat → Nat} {st st' g : pk_St} {hs hs' : List pk_St} {img img' : Option (pk_St × List pk_St)} {pl pl' : Option (Nat → Nat)} {fp r0 r1 : Int32} {A B : pk_A}
theorem sp_lk_bt (hj : j < D 2 0) : sp_bit (sp_lk D md l) j ↔ (¬ sp_bit md j ∧ (l ≠ 0 ∨ D 6 j = 0)) := by
  unfold sp_lk
  rw [sp_set_bit]
  constructor
  · intro q; exact of_decide_eq_true q.2
  · intro q; exact ⟨hj, decide_eq_true q⟩
/-- what shows writes -/
def pk_frH (r : Nat) (V V' : bk_Val) : Prop := (∀ a, a ≠ r → V'.1 a = V.1 a) ∧ (∀ k, k ≠ 71 → k ≠ 73 → V'.1 r k = V.1 r k) ∧ V'.2 = V.2
theorem pk_frH.rf : pk_frH r V V := ⟨fun _ _ => rfl, fun _ _ _ => rfl, rfl⟩
theorem pk_frH.tr (h : pk_frH r V V') (h2 : pk_frH r V' V2) : pk_frH r V V2 := ⟨fun a q => (h2.1 a q).trans (h.1 a q), fun k q1 q2 => (h2.2.1 k q1 q2).trans (h.2.1 k q1 q2), h2.2.2.trans h.2.2⟩
theorem pk_frH.w71 : pk_frH r V (bk_wI V r 71 x) := ⟨fun _ q => pk_rowI q, fun _ q _ => pk_slot q, rfl⟩
theorem pk_frH.w73 : pk_frH r V (bk_wI V r 73 x) := ⟨fun _ q => pk_rowI q, fun _ _ q => pk_slot q, rfl⟩
theorem pk_frH.toR (h : pk_frH r V V') : pk_frR r V V' := ⟨fun a q _ _ _ => h.1 a q, fun k q _ q3 _ => h.2.1 k q q3, fun a _ _ _ => by rw [h.2.2]⟩
theorem pk_frR.w71 : pk_frR r V (bk_wI V r 71 x) := pk_frH.w71.toR
theorem pk_frR.w72 : pk_frR r V (bk_wI V r 72 x) := ⟨fun _ q _ _ _ => pk_rowI q, fun _ _ q _ _ => pk_slot q, fun _ _ _ _ => rfl⟩
theorem sp_oI_some : (sp_oI (some k) = -nI 1) → k < 2 ^ 31 → False := fun q hk => (pk_eqm1 hk).mp q
theorem pr_shows (hN : 1000 ≤ N) (hS : pk_Rf Y r) (hT : pk_RT V r D P) (hB : pk_DB D P) (hm : bk_rI V r 60 = nI md) (hmd : md < 64) (hl : l < 2) (hi : i < D 0 0) (he : bk_rI V r 71 = ee) : ∃ V', q_X12_shows N Y V r (nI i) (nI l) = some (pk_B (¬ (sp_fd (sp_hit D (sp_lk D md l) i) (D 0 2) ee (D 2 0)).2 = none), V') ∧ pk_frH r V V' ∧ bk_rI V' r 71 = (sp_fd (sp_hit D (sp_lk D md l) i) (D 0 2) ee (D 2 0)).1 ∧ bk_rI V' r 73 = sp_oI (sp_fd (sp_hit D (sp_lk D md l) i) (D 0 2) ee (D 2 0)).2 := by
  have b0 := hB.1
  have b1 := hB.2.1
  have b2 := hB.2.2.1
  have b6 : D 2 0 ≤ 6 := hB.2.2.2.2.2.2.2.2.2.1
  obtain ⟨Q, hQ⟩ : ∃ Q, Q = sp_hit D (sp_lk D md l) i := ⟨_, rfl⟩
  rw [← hQ]
  have e0 : q_X12_shows N Y V r (nI i) (nI l) = q_X12_shows_7 N Y N (bk_wI V r 73 (-nI 1)) r (nI i) (nI l) (nI 0) := by
    unfold q_X12_shows
    rw [pk_ck hS.1, pk_letE]
    rfl
  rw [e0]
  refine loop_i (σ := bk_Val) (fun fu j V1 => ∃ V', q_X12_shows_7 N Y fu V1 r (nI i) (nI l) (nI j) = some (pk_B (¬ (sp_fd Q (D 0 2) ee (D 2 0)).2 = none), V') ∧ pk_frH r V V' ∧ bk_rI V' r 71 = (sp_fd Q (D 0 2) ee (D 2 0)).1 ∧ bk_rI V' r 73 = sp_oI (sp_fd Q (D 0 2) ee (D 2 0)).2) (fun j V1 => pk_frH r V V1 ∧ bk_rI V1 r 71 = (sp_fd Q (D 0 2) ee j).1 ∧ bk_rI V1 r 73 = sp_oI (sp_fd Q (D 0 2) ee j).2) (D 2 0) ?_ ?_ N 0 (bk_wI V r 73 (-nI 1)) (by omega) (by omega) ⟨pk_frH.w73, by rw [pk_rI_same, if_neg (by omega)]; exact he, by rw [pk_rI_same, if_pos rfl]; rfl⟩
  · intro fu V1 hV
    obtain ⟨g1, g2, g3⟩ := hV
    have hT1 := hT.fr g1.toR
    refine ⟨V1, ?_, g1, g2, g3⟩
    have h9 : bk_rI V1 r 9 = nI (D 2 0) := hT1.1.2.2.2.2.2.2.2.2.1
    rw [q_X12_shows_7, pk_ck hS.1, h9, if_pos (nI_le (by omega) (by omega)), g3]
    rcases hc : (sp_fd Q (D 0 2) ee (D 2 0)).2 with _ | h'
    · rw [if_pos (show sp_oI none = (-1 : Int32) from rfl), pk_Bf (fun q => q rfl)]
      rfl
    · have hlt := sp_fd_lt _ hc
      rw [if_neg (show ¬ sp_oI (some h') = (-1 : Int32) from fun q => sp_oI_some (k := h') q (by omega)), pk_Bt (by intro q; cases q)]
      rfl
  · intro fu j V1 hj hV ih
    obtain ⟨g1, g2, g3⟩ := hV
    have hT1 := hT.fr g1.toR
    have h9 : bk_rI V1 r 9 = nI (D 2 0) := hT1.1.2.2.2.2.2.2.2.2.1
    have h60 : bk_rI V1 r 60 = nI md := (g1.2.1 60 (by omega) (by omega)).trans hm
    have hr := (hT1.2.2.1 j hj).1
    have hij := (hB.2.2.2.2.2.2.2.2.2.2.1 j hj).1
    have hlk := pr_isLeaking (N := N) hS hT1 hB h60 hmd hl hj
    have hlo := pr_looked (N := N) (V := V1) (j := D 3 j) (i := i) hS hT1.1.1 hT1.1.2.1 b0 b1.2 hij hi
    have hdw := pr_draw (N := N) (V := V1) hS
    rw [g2] at hdw
    have hdr := sp_dr_lt (x := sp_gr (sp_fd Q (D 0 2) ee j).1)
    have h3 : bk_rI (bk_wI V1 r 71 (sp_gr (sp_fd Q (D 0 2) ee j).1)) r 3 = nI (D 0 2) := by rw [pk_rI_same, if_neg (by omega)]; exact hT1.1.2.2.1
    have h73 : bk_rI (bk_wI V1 r 71 (sp_gr (sp_fd Q (D 0 2) ee j).1)) r 73 = sp_oI (sp_fd Q (D 0 2) ee j).2 := by rw [pk_rI_same, if_neg (by omega)]; exact g3
    rw [q_X12_shows_7]
    simp (disch := omega) only [hS, h9, pk_ckT, pk_bs, pk_letE, pk_bd2E, pk_bd3E, if_true, if_false, eq_self, not_true_eq_false, not_false_eq_true, true_and, and_true, Nat.not_lt_zero, Nat.zero_le, Nat.reduceEqDiff, Nat.reduceLT, Nat.reduceLeDiff, pk_ck, pk_lit, nI_leI, hlk, pk_B0, pk_mul, nI_clamp, pk_inE, hr, hlo, hdw, h3, nI_ltI, h73, q_X12_shows_69, nI_add]
    rw [if_neg (by omega)]
    by_cases c : Q j = true
    · have c' : sp_bit (sp_lk D md l) j ∧ sp_look D (D 3 j) i := by rw [hQ] at c; exact of_decide_eq_true c
      rw [if_neg (fun q => q ((sp_lk_bt hj).mp c'.1)), if_neg (fun q => q c'.2)]
      by_cases c2 : D 0 2 ≤ sp_dr (sp_gr (sp_fd Q (D 0 2) ee j).1)
      · rw [if_neg (by omega)]
        rcases hc : (sp_fd Q (D 0 2) ee j).2 with _ | h'
        · rw [if_pos (show sp_oI none = -nI 1 from rfl)]
          have e1 := sp_fd_s1 c hc c2
          refine ih _ ⟨(g1.tr pk_frH.w71).tr pk_frH.w73, ?_, ?_⟩
          · rw [e1, pk_rI_same, if_neg (by omega), pk_rI_same, if_pos rfl]
          · rw [e1, pk_rI_same, if_pos rfl]
            rfl
        · have hlt := sp_fd_lt _ hc
          have e1 := sp_fd_s4 c hc
          rw [if_neg (fun q => sp_oI_some (k := h') q (by omega))]
          refine ih _ ⟨g1.tr pk_frH.w71, ?_, ?_⟩
          · rw [e1, pk_rI_same, if_pos rfl]
          · rw [h73, e1, hc]
      · rw [if_pos (by omega)]
        rcases hc : (sp_fd Q (D 0 2) ee j).2 with _ | h'
        · have e1 := sp_fd_s2 c hc c2
          refine ih _ ⟨g1.tr pk_frH.w71, ?_, ?_⟩
          · rw [e1, pk_rI_same, if_pos rfl]
          · rw [h73, e1, hc]
        · have e1 := sp_fd_s4 c hc
          refine ih _ ⟨g1.tr pk_frH.w71, ?_, ?_⟩
          · rw [e1, pk_rI_same, if_pos rfl]
          · rw [h73, e1, hc]
    · have e1 := sp_fd_s3 (m := D 0 2) (ee := ee) c
      have ih' := ih V1 ⟨g1, by rw [e1]; exact g2, by rw [e1]; exact g3⟩
      by_cases c3 : ¬ sp_bit md j ∧ (l ≠ 0 ∨ D 6 j = 0)
      · rw [if_neg (fun q => q c3), if_pos (fun q => c (by rw [hQ]; exact decide_eq_true ⟨(sp_lk_bt hj).mpr c3, q⟩))]
        exact ih'
      · rw [if_pos c3]
        exact ih'
theorem pr_sb14 (hN : 1000 ≤ N) (hS : pk_Rf Y r) (hT : pk_RT V r D P) (hB : pk_DB D P) (hF : ∀ p, w p ≤ 1000000000000000) (hm : bk_rI V r 60 = nI md) (hmd : md < 64) (hl : l < 2) (hc : pk_Cp r V D w 0) (h72 : bk_rI V r 72 = nI 1) (he : bk_rI V r 71 = ee) : ∃ V', q_X12_seeksBy_14 N Y N V r (nI l) = some V' ∧ pk_frR r V V' ∧ bk_rI V' r 72 = sp_pI (sp_fin (sp_FF D (sp_lk D md l) (fun k => sp_next D (sp_rt D w k))) 600 0 ee) 0 ∧ bk_rI V' r 73 = sp_pI (sp_fin (sp_FF D (sp_lk D md l) (fun k => sp_next D (sp_rt D w k))) 600 0 ee) 1 := by
  obtain ⟨F, hFF⟩ : ∃ F, F = sp_FF D (sp_lk D md l) (fun k => sp_next D (sp_rt D w k)) := ⟨_, rfl⟩
  rw [← hFF]
  refine loop_i (σ := bk_Val × Int32) (fun fu j g => ∃ V', q_X12_seeksBy_14 N Y fu g.1 r (nI l) = some V' ∧ pk_frR r V V' ∧ bk_rI V' r 72 = sp_pI (sp_fin F (600 - j) j g.2) 0 ∧ bk_rI V' r 73 = sp_pI (sp_fin F (600 - j) j g.2) 1) (fun j g => pk_frR r V g.1 ∧ pk_Cp r g.1 D w j ∧ bk_rI g.1 r 72 = nI (j + 1) ∧ bk_rI g.1 r 71 = g.2 ∧ (0 < j → bk_rI g.1 r 73 = -nI 1)) 600 ?_ ?_ N 0 (V, ee) (by omega) (by omega) ⟨pk_frR.rf, hc, h72, he, fun q => by omega⟩
  · intro fu g hV
    obtain ⟨g1, g2, g3, g4, g5⟩ := hV
    refine ⟨bk_wI g.1 r 72 (-nI 1), ?_, g1.tr pk_frR.w72, by rw [pk_rI_same, if_pos rfl]; rfl, by rw [pk_rI_same, if_neg (by omega)]; exact g5 (by omega)⟩
    rw [q_X12_seeksBy_14, pk_ck hS.1, g3, if_pos (by decide), pk_letE]
    rfl
  · intro fu j g hj hV ih
    obtain ⟨g1, g2, g3, g4, g5⟩ := hV
    have hT1 := hT.fr g1
    obtain ⟨V3, f1, f2, f2', f3⟩ := pr_nextJ (N := N) hN hS hT1 hB hF g2
    have hT3 := hT1.fr f2
    have h60 : bk_rI V3 r 60 = nI md := by
      rw [← hm]
      exact (f2.2.1 60 (by omega) (by omega) (by omega) (by omega)).trans (g1.2.1 60 (by omega) (by omega) (by omega) (by omega))
    have h71 : bk_rI V3 r 71 = g.2 := by rw [← g4]; unfold bk_rI; rw [f2']
    obtain ⟨V4, s1, s2, s3, s4⟩ := pr_shows (N := N) hN hS hT3 hB h60 hmd hl (sp_next_lt (w := sp_rt D w j) hB) h71
    have hc4 : pk_Cp r V4 D w j := fun p hp => by
      rw [← f3 p hp]
      unfold bk_rL
      rw [s2.2.2]
    obtain ⟨V5, d1, d2, d2', d3⟩ := pr_dipJ (N := N) hN hS (hT3.fr s2.toR) hB hF hc4
    have h724 : bk_rI V4 r 72 = nI (j + 1) := (s2.2.1 72 (by omega) (by omega)).trans (by rw [← g3]; unfold bk_rI; rw [f2'])
    have h725 : bk_rI V5 r 72 = nI (j + 1) := by rw [← h724]; unfold bk_rI; rw [d2']
    have hFd : F j g.2 = sp_fd (sp_hit D (sp_lk D md l) (sp_next D (sp_rt D w j))) (D 0 2) g.2 (D 2 0) := by rw [hFF]; rfl
    rw [← hFd] at s1 s3 s4
    rw [q_X12_seeksBy_14]
    simp (disch := omega) only [hS, pk_ckT, pk_bs, pk_letE, pk_bd2E, pk_bd3E, if_true, if_false, eq_self, not_true_eq_false, not_false_eq_true, true_and, and_true, Nat.not_lt_zero, Nat.zero_le, Nat.reduceEqDiff, Nat.reduceLT, Nat.reduceLeDiff, pk_ck, pk_lit, g3, nI_ltI, f1, s1, pk_B0, d1, h725, nI_add]
    rw [if_neg (by omega), show 600 - j = (600 - (j + 1)) + 1 by omega]
    unfold sp_fin
    rcases hc' : (F j g.2).2 with _ | h'
    · rw [if_pos (fun q => q rfl)]
      rw [hc'] at s4
      refine ih (bk_wI V5 r 72 (nI (j + 1 + 1)), (F j g.2).1) ⟨(((g1.tr f2).tr s2.toR).tr d2).tr pk_frR.w72, d3, by rw [pk_rI_same, if_pos rfl], ?_, fun _ => ?_⟩
      · rw [pk_rI_same, if_neg (by omega), ← s3]
        unfold bk_rI
        rw [d2']
      · rw [pk_rI_same, if_neg (by omega)]
        show bk_rI V5 r 73 = sp_oI none
        rw [← s4]
        unfold bk_rI
        rw [d2']
    · rw [if_neg (fun q => by cases q (by intro e; cases e))]
      rw [hc'] at s4
      exact ⟨V4, rfl, (g1.tr f2).tr s2.toR, h724, s4⟩
theorem pr_seeksBy (hN : 1000 ≤ N) (hS : pk_Rf Y r) (hR : pk_JR r V D P T tl st hs img pl fp r0 r1) (hB : pk_JB D P T tl st hs img) (hl : l < 2) : ∃ V', q_X12_seeksBy N Y V r ee (nI l) = some V' ∧ pk_frR r V V' ∧ bk_rI V' r 72 = sp_pI (sp_fin (sp_FF D (sp_lk D st.2.2.1 l) (fun k => sp_next D (sp_rt D st.2.2.2 k))) 600 0 ee) 0 ∧ bk_rI V' r 73 = sp_pI (sp_fin (sp_FF D (sp_lk D st.2.2.1 l) (fun k => sp_next D (sp_rt D st.2.2.2 k))) 600 0 ee) 1 := by
  have hF := hB.2.2.1.1.2.2.1
  have hR1 : pk_JR r (bk_wI V r 71 ee) D P T tl st hs img pl fp r0 r1 := hR.frr pk_frR.w71
  obtain ⟨V3, a1, a2, a2', a3⟩ := pr_copyJ (N := N) hN hS hR1
  have hR3 := hR1.frr a2
  have hR4 : pk_JR r (bk_wI V3 r 72 (nI 1)) D P T tl st hs img pl fp r0 r1 := hR3.frr pk_frR.w72
  obtain ⟨V4, l1, l2, l3⟩ := pr_sb14 (N := N) (V := bk_wI V3 r 72 (nI 1)) (ee := ee) hN hS hR4.1 hB.1 hF hR4.2.2.1.2.2.1 hB.2.2.1.1.2.1 hl a3 (by rw [pk_rI_same, if_pos rfl]) (by
    rw [pk_rI_same, if_neg (by omega)]
    have : bk_rI V3 r 71 = bk_rI (bk_wI V r 71 ee) r 71 := by unfold bk_rI; rw [a2']
    rw [this, pk_rI_same, if_pos rfl])
  refine ⟨V4, ?_, ((pk_frR.w71.tr a2).tr pk_frR.w72).tr l2, l3⟩
  simp only [q_X12_seeksBy, hS, pk_ckT, eq_self, pk_letE, a1, pk_bs, pk_lit]
  exact l1
theorem sp_fin_b (hB : pk_DB D P) : ∀ g, sp_fin (sp_FF D S In) 600 0 ee = some g → g.1 < 600 ∧ g.2 < 6 := fun g hg => by
  have b6 : D 2 0 ≤ 6 := hB.2.2.2.2.2.2.2.2.2.1
  have := sp_fin_lt (m := D 2 0) (fun k e h h1 => sp_FF_lt k e h h1) 600 0 ee g hg
  omega
theorem st_17 (hN : 20000 ≤ N) (hI : pk_IA z Y V) : bk_st17 N z (z + 58) (z + 86) Y V x1 x2 x3 x4 x5 (pk_IA z) := by
  obtain ⟨t, u, s, D, P, T, tl, st, hs, img, pl, fp, r0, r1, hJ, hR, hB, hC, hRA, hBA⟩ := hI.e
  obtain ⟨hM, hS, hz, hT, hs5, -⟩ := hJ.o
  have hl := sp_l_lt (x := x2)
  have hlk := sp_lk_lt (md := st.2.2.1) (l := sp_l x2) hB.1
  unfold bk_st17
  rw [pk_bl]
  rcases pk_ix2 x3 (n := 2) (by omega) with hx | ⟨c, hc, rfl⟩
  · have ho : ¬ (nI 0 ≤ x3 ∧ x3 ≤ nI 1) := pk_out hx (by omega) (by omega)
    refine ⟨.inl 1, ?_, (fun e he => by cases he; rfl), pk_stT hC hRA hBA rfl (k := 1) (by decide) (v := nI 0) (fun Y1 V1 h1 h2 => ⟨_, ?_, pk_frR.rf⟩)⟩
    · simp only [q_X11_seek, pc_isWithin, pk_bs, pk_lit, pc_needE]
      rw [if_neg ho, pk_bdxL]
    · simp only [q_X12_seek, h1, pk_ckT, eq_self, pk_letE, pk_lit]
      rw [pr_isWhat h1 pk_w0, pk_bd2E, if_neg ho, pk_Bf ho, if_pos rfl]
  · have hin : nI 0 ≤ nI c ∧ nI c ≤ nI 1 := pk_inn hc (by omega) rfl
    obtain ⟨Y', V', f1, f2, f3⟩ := pc_find (N := N) (ee := x1) hN hJ hB hlk
    have hp := pc_part (N := N) (Y := Y') (V := V') (c := c) (sp_fin_b (S := sp_lk D st.2.2.1 (sp_l x2)) (In := fun k => sp_next D (sp_rt D st.2.2.2 k)) (ee := x1) hB.1) hc
    refine ⟨.inr (sp_pI (sp_fin (sp_FF D (sp_lk D st.2.2.1 (sp_l x2)) (fun k => sp_next D (sp_rt D st.2.2.2 k))) 600 0 x1) c, Y', V'), ?_, (fun e he => by cases he), pk_stQ hC hRA hBA ⟨⟨t, u, s, f3⟩, f2⟩ rfl (fun Y1 V1 h1 h2 => ?_)⟩
    · simp only [q_X11_seek, pc_isWithin, pk_bs, pk_lit, pc_needE]
      rw [if_pos hin, pk_bdxR, pk_ck hM.1, pc_lk (by omega) hJ hB hl, pk_bs, show q_X11_findBy N Y V z x1 (nI (sp_lk D st.2.2.1 (sp_l x2))) (nI 0) = _ from f1, pk_bd3E, hp, pk_bs]
    · have h3 : pk_JR (z + 58) (bk_wI V1 (z + 58) 0 (nI 0)) D P T tl st hs img pl fp r0 r1 := pk_JR.w0 h2
      obtain ⟨V3, a1, a2, a3, a4⟩ := pr_seeksBy (N := N) (ee := x1) (by omega) h1 h3 hB hl
      refine ⟨V3, ?_, a2⟩
      simp only [q_X12_seek, h1, pk_ckT, eq_self, pk_letE, pk_lit]
      rw [pr_isWhat h1 pk_w0, pk_bd2E, if_pos hin, pk_Bt hin, if_neg (by decide), a1, pk_bs, a3, a4]
      by_cases c0 : c = 0
      · rw [if_pos (by rw [c0]), c0]
      · rw [if_neg (by rw [nI_eq (by omega) (by omega)]; exact c0), show c = 1 by omega]
end
