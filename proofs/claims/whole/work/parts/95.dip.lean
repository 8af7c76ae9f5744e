/-! what one believes changes: the weights cloned, written, kept -/
section
variable {N z t u s tl r a b c d k n j h m l p q0 md wa s' i f e gg v : Nat} {Y Y' : bk_Lay} {V V' V2 W : bk_Val} {x y x1 x2 x3 x4 x5 : Int32} {w1 w2 : Int64} {D : Nat → Nat → Nat} {P : Nat → List Nat} {T T' w R : Nat → Nat} {st st' g : pk_St} {hs hs' : List pk_St} {img img' : Option (pk_St × List pk_St)} {pl : Option (Nat → Nat)} {fp r0 r1 : Int32} {A B : pk_A}
theorem pk_JC.cl (h : pk_JC z Y V t u s D P T tl st hs img pl fp r0 r1) (e1 : V'.1 = (bk_nc Y V wa).1) (e2 : ∀ b, b ≠ bk_sz Y → V'.2 b = (bk_nc Y V wa).2 b) : pk_J0 z (bk_nw Y (3, 4 * D 0 0)) V' t u s D P T tl st hs img pl fp r0 r1 ∧ pk_offR z V V' ∧ pk_rg z (bk_nw Y (3, 4 * D 0 0)) (bk_sz Y) ∧ bk_sh (bk_nw Y (3, 4 * D 0 0)) (bk_sz Y) = (3, 4 * D 0 0) := by
  have hF := h.1
  have hsz : z + 87 ≤ bk_sz Y := hF.2.2
  have hn := h.ne
  have rowV : ∀ a, a ≠ bk_sz Y → V'.1 a = V.1 a ∧ V'.2 a = V.2 a := fun a q => ⟨by rw [e1]; exact va_up_ne _ _ q, (e2 a q).trans (va_up_ne _ _ q)⟩
  have kp : pk_kp z Y V (bk_nw Y (3, 4 * D 0 0)) V' := by
    refine ⟨by show bk_sz Y ≤ bk_sz Y + 1; omega, fun a ha => ?_⟩
    have q : a ≠ bk_sz Y := by have := ha.2; omega
    exact ⟨by rw [pk_sh_nw, if_neg q], pk_rowN q, rowV a q⟩
  exact ⟨h.j0.of hF.nw (fun k => by rw [pk_rR_nw, if_neg (by omega)]) kp (fun a _ q _ _ _ _ _ => (rowV a (by omega)).1), fun a q1 q2 => rowV a (by omega), ⟨by omega, by show bk_sz Y < bk_sz Y + 1; omega⟩, by rw [pk_sh_nw, if_pos rfl]⟩
theorem pk_J0.sd (h : pk_J0 z Y V t u s D P T tl st hs img pl fp r0 r1) : pk_Mn Y z ∧ pk_Sd Y t ∧ bk_rR Y z 5 = some t ∧ pk_CT V t D P ∧ bk_rR Y z 7 = some s ∧ (bk_sh Y s = (1, 5) ∧ bk_rI V s 1 = nI st.1 ∧ bk_rI V s 2 = nI st.2.1 ∧ bk_rI V s 3 = nI st.2.2.1) := by
  obtain ⟨h1, h2, h3, h4, h5, h6, -⟩ := h
  have g := h6.hd
  refine ⟨h1.mn, ?_, h3.1, h4, h3.2.2, g.2.1, g.2.2.1, g.2.2.2.1, g.2.2.2.2.1⟩
  rcases h2 with ⟨rfl, -⟩ | ⟨rfl, -⟩
  · exact h1.sd0
  · exact h1.sd1
theorem pc_believe (hN : 20000 ≤ N) (h : pk_J0 z Y V t u s D P T tl st hs img pl fp r0 r1) (hl : hs.length ≤ 40) (hd : 12 ≤ D 0 0 ∧ D 0 0 ≤ 84) (hw : pk_rg z Y wa) (hw2 : bk_sh Y wa = (3, 4 * D 0 0)) (hw3 : ∀ p, p < 4 * D 0 0 → bk_rL V wa p = lN (w p)) (hF : ∀ p, w p ≤ 1000000000000000) : ∃ Y' V', q_X11_believe N Y V z wa = some (nI (sp_best w (4 * D 0 0)), Y', V') ∧ pk_CA z Y' V' (D, P, T, tl, (st.1, st.2.1, st.2.2.1, w), (st :: hs).take 40, img, pl, fp, r0, r1) ∧ pk_offR z V V' := by
  obtain ⟨hM, hS, hz5, hT, hz7, hs5⟩ := h.sd
  obtain ⟨Y', V1, e1, e2, -, e4, kp⟩ := pc_keepAct (N := N) (p := st.1) (m := st.2.1) (md := st.2.2.1) (w := w) h hl hw hw2 hw3
  have hn := e2.2.1
  have hM1 := e2.sd.1
  have hsh : bk_sh Y' wa = (3, 4 * D 0 0) := by rw [(kp.2 wa hw).1]; exact hw2
  have hwa : wa ≠ z + 3 := by have := hw.1; omega
  have hv : ∀ p, p < 4 * D 0 0 → bk_rL (bk_wI V1 (z + 3) 6 (nI 0)) wa p = lN (w p) := fun p hp => by
    rw [← hw3 p hp]
    exact congrFun (kp.2 wa hw).2.2.2 p
  refine ⟨Y', bk_wI V1 (z + 3) 6 (nI 0), ?_, ⟨t, u, bk_sz Y, pk_J0.jc (e2.of e2.1 (fun _ => rfl) ⟨Nat.le_refl _, fun a ha => ⟨rfl, rfl, pk_rowI (by have := ha.1; omega), rfl⟩⟩ (fun a _ _ _ _ _ _ q => pk_rowI (by omega))) (Or.inl (by rw [pk_rI_same, if_pos rfl]))⟩, e4.tr (fun a q1 q2 => ⟨pk_rowI (by omega), rfl⟩)⟩
  have lk := pc_likeliest (N := N) (Y := Y') (V := bk_wI V1 (z + 3) 6 (nI 0)) (wa := wa) (w := w) (n := 4 * D 0 0) (by omega) hsh (by omega) (fun p => Nat.le_trans (hF p) (by omega)) hv
  simp only [q_X11_believe, hM, hz7, hs5, pk_ckT, pk_bs, pk_letE, pk_bd2E, pk_bd3E, if_true, if_false, eq_self, not_true_eq_false, not_false_eq_true, true_and, and_true, Nat.not_lt_zero, Nat.zero_le, Nat.reduceEqDiff, Nat.reduceLT, Nat.reduceLeDiff, pk_ck, e1, hM1, q_X3_forget, pk_lit, lk]
theorem st_10 (hN : 20000 ≤ N) (hI : pk_IA z Y V) : bk_st10 N z (z + 58) (z + 86) Y V x1 x2 x3 x4 x5 (pk_IA z) := by
  obtain ⟨t, u, s, D, P, T, tl, st, hs, img, pl, fp, r0, r1, hJ, hR, hB, hC, hRA, hBA⟩ := hI.e
  obtain ⟨hM, hS, hz, hT, hs5, -⟩ := hJ.o
  have b0 := hB.1.1
  have b2 := hB.1.2.2.1
  unfold bk_st10
  have ref : q_X11_dip N Y V z x1 x2 = q_X11_dip_19 N Y V z → (∀ V1, pk_Rf Y (z + 58) → pk_JR (z + 58) V1 D P T tl st hs img pl fp r0 r1 → q_X12_dip N Y V1 (z + 58) x1 x2 = q_X12_dip_24 N Y (bk_wI V1 (z + 58) 0 (nI 0)) (z + 58)) → ∃ (r1 : Int32) (Y1 : bk_Lay) (V1 : bk_Val), q_X11_dip N Y V z x1 x2 = some (r1, Y1, V1) ∧ bk_sh Y1 (z + 58) = (1, 11) ∧ ∃ (r2 : Int32) (V2 : bk_Val), q_X12_dip N Y1 V1 (z + 58) x1 x2 = some (r2, V2) ∧ r1 = r2 ∧ pk_IA z Y1 V2 := by
    intro g1 g2
    obtain ⟨e1, e2, e3⟩ := pc_refuse (N := N) hJ
    have hR1 : pk_JR (z + 58) _ D P T tl st hs img pl fp r0 r1 := hRA.off e3
    have hRf := e2.rf.1
    obtain ⟨e4, e5⟩ := pr_refuse (N := N) hRf hR1.w0 (V := bk_wI (bk_wI V z 14 (r1 + nI 1)) (z + 58) 0 (nI 0))
    refine ⟨-nI 1, Y, bk_wI V z 14 (r1 + nI 1), ?_, pk_stN e2 hB ⟨_, ?_, pk_out0.w0.wI (a := z + 58 + 7) (by omega) (by omega), e5⟩⟩
    · rw [g1, q_X11_dip_19, pk_ck hM.1, e1, pk_bd2E]
    · rw [g2 _ hRf hR1, q_X12_dip_24, pk_ck hRf.1, e4, pk_bd2E]
  rcases pk_ix2 x1 (n := D 0 0) (by omega) with hx | ⟨i, hi, rfl⟩
  · refine ref ?_ (fun V1 hRf hR1 => ?_)
    · simp only [q_X11_dip, hM, pk_ckT, eq_self, pc_isInch hM hz.1 hS hT hB.1, pk_bs, pk_lit, pk_B0]
      rw [if_pos (pk_out hx (by omega) (by omega))]
    · have h1 : bk_rI (bk_wI V1 (z + 58) 0 (nI 0)) (z + 58) 1 = nI (D 0 0) := hR1.w0.1.1.1
      simp only [q_X12_dip, hRf, pk_ckT, eq_self, pk_letE, pk_lit, pr_isInchN hRf h1 hx, pk_bs, pk_B0, not_false_eq_true, if_true]
  · have hin := pk_inn hi (by omega) (show D 0 0 - 1 + 1 = D 0 0 by omega)
    rcases pk_in600 x2 with hx | ⟨k, hk, hk2, rfl⟩
    · refine ref ?_ (fun V1 hRf hR1 => ?_)
      · simp only [q_X11_dip, hM, pk_ckT, eq_self, pc_isInch hM hz.1 hS hT hB.1, pk_bs, pk_lit, pk_B0, pc_isWithin]
        rw [if_neg (fun q => q hin), if_pos hx]
      · have h1 : bk_rI (bk_wI V1 (z + 58) 0 (nI 0)) (z + 58) 1 = nI (D 0 0) := hR1.w0.1.1.1
        simp only [q_X12_dip, hRf, pk_ckT, eq_self, pk_letE, pk_lit, pr_isInchY hRf h1 b0.2 hi, pk_bs, pk_B0, not_true_eq_false, if_false, pr_within]
        rw [if_pos hx]
    · have hk' : nI 1 ≤ nI k ∧ nI k ≤ nI 600 := ⟨nI_le (by omega) (by omega), nI_le (by omega) (by omega)⟩
      obtain ⟨wa, w1, w2, w3, w4⟩ := hJ.ww
      have hF := hB.2.2.1.1.2.2.1
      have hFz := hB.2.2.1.1.2.2.2
      obtain ⟨j1, -, j3, j4⟩ := hJ.cl (wa := wa) (V' := bk_nc Y V wa) rfl (fun _ _ => rfl)
      obtain ⟨m1, m2, m3, m4, -⟩ := j1.sd
      obtain ⟨V3, q1, q2, q3, q4⟩ := pc_dip41 (N := N) (k := k) (w := st.2.2.2) (by omega) m1 m3 m2 m4 hB.1 hi hk2 j4 hF (fun p hp => by rw [pk_rL_nc, if_pos rfl]; exact w4 p hp)
      obtain ⟨j5, j6, -⟩ := hJ.cl (wa := wa) (V' := V3) q2 q3
      have hG := sp_dk_le (D := D) (w := st.2.2.2) (i := i) (m := 1000000000000000) (by omega) hF k
      obtain ⟨Y', V', e1, e2, e3⟩ := pc_believe hN j5 hB.2.2.1.2.2 b0 j3 j4 q4 hG
      have hR1 : pk_JR (z + 58) V' D P T tl st hs img pl fp r0 r1 := hRA.off (j6.tr e3)
      have hRf := e2.rf.1
      obtain ⟨V4, k1, k2, k3⟩ := pr_keepsJ hN hRf hR1.w0 hB.2.2.1.2.2 (V := bk_wI V' (z + 58) 0 (nI 0))
      obtain ⟨V5, l1, l2, l3, l4⟩ := pr_dipk (N := N) (Y := Y') (V := V4) (r := z + 58) (k := k) (w := st.2.2.2) (by omega) hRf k2.1.1.1 k2.1.1.2.1 k2.1.1.2.2.1 hB.1 hi hk2 hF k2.2.2.1.2.2.2
      refine ⟨nI (sp_best (sp_dk D st.2.2.2 i k) (4 * D 0 0)), Y', V', ?_, pk_stN e2 (hB.act ⟨hB.2.2.1.1.1, hB.2.2.1.1.2.1, hG, fun p hp => ?_⟩) ⟨V5, ?_, ?_, ?_⟩⟩
      · have hsh : (bk_sh Y wa).1 = 3 ∧ (bk_sh Y wa).2 = 4 * D 0 0 := by rw [w3]; exact ⟨rfl, rfl⟩
        simp only [q_X11_dip, hM, pk_ckT, eq_self, pc_isInch hM hz.1 hS hT hB.1, pk_bs, pk_lit, pk_B0, pc_isWithin]
        rw [if_neg (fun q => q hin), if_neg (fun q => q hk'), hz.2.2, pk_bs, pk_ck hs5.1, w1, pk_bs, pk_ck hsh.1, hsh.2, pk_ck (by omega), pk_letE, pk_letE, pk_letE, pk_ck (by rw [j4])]
        refine q1.trans ?_
        rw [e1, pk_bd3E]
      · show sp_dk D st.2.2.2 i k p = 0
        rw [sp_dk_e, if_neg (fun q => by have := q.1; omega)]
        exact hFz p hp
      · have h1 : bk_rI (bk_wI V' (z + 58) 0 (nI 0)) (z + 58) 1 = nI (D 0 0) := hR1.w0.1.1.1
        simp only [q_X12_dip, hRf, pk_ckT, eq_self, pk_letE, pk_lit, pr_isInchY hRf h1 b0.2 hi, pk_bs, pk_B0, not_true_eq_false, if_false, pr_within]
        rw [if_neg (fun q => q hk'), k1, pk_bs]
        exact l1
      · have o := pk_out0.w0.frK k3
        refine ⟨?_, fun a q => ⟨?_, ?_⟩⟩
        · rw [← o.1]
          unfold bk_rI
          rw [l2]
        · rw [l2]; exact (o.2 a q).1
        · rw [l3 a (by omega)]; exact (o.2 a q).2
      · refine pk_JR.sta k2 (fun a q1 q2 q3 q4 q5 => by rw [l2]) (fun k q0 q1 q2 q3 q4 q5 q6 q7 => by rw [l2]) (fun a q1 q2 q3 q4 q5 q6 => l3 a q3) ⟨?_, ?_, ?_, l4⟩
        · rw [← k2.2.2.1.1]; unfold bk_rI; rw [l2]
        · rw [← k2.2.2.1.2.1]; unfold bk_rI; rw [l2]
        · rw [← k2.2.2.1.2.2.1]; unfold bk_rI; rw [l2]
end
