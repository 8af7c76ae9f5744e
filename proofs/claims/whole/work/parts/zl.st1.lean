/-! shed: both -/
section
variable {N z t u s tl r a b c d k n j h m l p q q0 md wa s' i f gg v S L g lo hi w e : Nat} {Y Y1 Y2 Y' : bk_Lay} {V V' V1 V2 V8 : bk_Val} {x y x1 x2 x3 x4 x5 ee : Int32} {T T' R G In : Nat → Nat} {D D' : Nat → Nat → Nat} {P P' : Nat → List Nat} {K : List Nat} {o : pk_O} {st st' : pk_St} {hs hs' : List pk_St} {img img' : Option (pk_St × List pk_St)} {pl : Option (Nat → Nat)} {fp r0 r1 : Int32}
/-- the class begins anew with the tube that was told -/
theorem pc_beginAnew (hN : 1000 ≤ N) (hF : pk_Fix z Y) (hn : (t = z + 10 ∧ u = z + 32) ∨ (t = z + 32 ∧ u = z + 10)) (h5 : bk_rR Y z 5 = some t) (h6 : bk_rR Y z 6 = some u) (hT : pk_CT V u D P) (hB : pk_DB D P) (h1 : bk_rI V (z + 1) 1 = nI 0) (h12 : bk_rI V z 12 = fp) (h13 : bk_rI V z 13 = r0) (h14 : bk_rI V z 14 = r1) : ∃ Y' V', q_X11_beginAnew N Y V z = some (Y', V') ∧ pk_CA z Y' V' (D, P, T, 0, (1000 * D 0 4, 0, 0, sp_w0 D), [], none, none, fp, r0, r1) ∧ pk_offR z V V' := by
  have hsz := hF.2.2
  have hF8 : pk_Fix z (bk_wR (bk_wR Y z 6 (some t)) z 5 (some u)) := (hF.wR (Or.inl ⟨rfl, by omega⟩)).wR (Or.inl ⟨rfl, by omega⟩)
  have z8 : bk_sz (bk_wR (bk_wR Y z 6 (some t)) z 5 (some u)) = bk_sz Y := rfl
  obtain ⟨Y14, V15, a1, a2, a3, a4⟩ := pc_ofNew (N := N) hN hF8 (by omega) hT hB
  rw [z8] at a1 a3 a4
  have rz : ∀ k, k ≠ 6 → k ≠ 5 → bk_rR (bk_wR (bk_wR Y z 6 (some t)) z 5 (some u)) z k = bk_rR Y z k := fun k q1 q2 => by rw [pk_rR_wR, if_neg (fun g => q2 g.2), pk_rR_wR, if_neg (fun g => q1 g.2)]
  have r14 : ∀ a k, a < bk_sz Y → bk_rR Y14 a k = bk_rR (bk_wR (bk_wR Y z 6 (some t)) z 5 (some u)) a k := fun a k ha => congrFun (a4 a ha).2.2 k
  have v15 : ∀ a k, a < bk_sz Y → bk_rI V15 a k = bk_rI V a k := fun a k ha => congrFun (a4 a ha).1 k
  have hF21 : pk_Fix z (bk_wR (bk_wR Y14 z 7 (some (bk_sz Y))) z 9 none) := (a2.wR (Or.inl ⟨rfl, by omega⟩)).wR (Or.inl ⟨rfl, by omega⟩)
  generalize hV : bk_wI (bk_wI (bk_wI (bk_wI V15 z 8 (nI 0)) z 10 (nI 0)) z 11 (nI 0)) (z + 3) 6 (nI 0) = V30
  have row : ∀ a, a ≠ z → a ≠ z + 3 → V30.1 a = V15.1 a := fun a q1 q2 => by rw [← hV, pk_rowI q2, pk_rowI q1, pk_rowI q1, pk_rowI q1]
  have rowL : V30.2 = V15.2 := by rw [← hV]; rfl
  have slz : ∀ k, k ≠ 8 → k ≠ 10 → k ≠ 11 → bk_rI V30 z k = bk_rI V15 z k := fun k q1 q2 q3 => by rw [← hV, pk_rI_ne (by omega), pk_rI_same, if_neg q3, pk_rI_same, if_neg q2, pk_rI_same, if_neg q1]
  have kp : pk_kp z Y14 V15 (bk_wR (bk_wR Y14 z 7 (some (bk_sz Y))) z 9 none) V30 := ⟨Nat.le_refl _, fun a ha => ⟨rfl, by rw [pk_rowR (by have := ha.1; omega), pk_rowR (by have := ha.1; omega)], row a (by have := ha.1; omega) (by have := ha.1; omega), by rw [rowL]⟩⟩
  refine ⟨bk_wR (bk_wR Y14 z 7 (some (bk_sz Y))) z 9 none, V30, ?_, ⟨u, t, bk_sz Y, hF21, by omega, ⟨?_, ?_, ?_⟩, ?_, ⟨?_, fun j hj => absurd hj (Nat.not_lt_zero j)⟩, a3.kp kp, ?_, ?_, ?_, ⟨?_, ?_, ?_⟩, Or.inl ?_⟩, fun a q1 q2 => ⟨?_, ?_⟩⟩
  · have hM := hF.mn
    have b5 : bk_rR (bk_wR (bk_wR Y z 6 (some t)) z 5 (some u)) z 5 = some u := by rw [pk_rR_wR, if_pos ⟨rfl, rfl⟩]
    have b1 : bk_rR (bk_wR (bk_wR Y14 z 7 (some (bk_sz Y))) z 9 none) z 1 = some (z + 3) := by
      rw [pk_rR_wR, if_neg (by omega), pk_rR_wR, if_neg (by omega), r14 z 1 (by omega), rz 1 (by omega) (by omega)]
      exact hM.2.2.1
    have b2 : bk_sh (bk_wR (bk_wR Y14 z 7 (some (bk_sz Y))) z 9 none) (z + 3) = (1, 2) := hF21.mn.2.2.2.2.2.2.2.2.2.1
    have b3 : bk_sh Y14 z = (1, 10) := a2.mn.1
    unfold q_X11_beginAnew q_X3_forget
    rw [pk_ck hM.1, h6, pk_bs, h5, pk_bs, pk_letE, pk_letE, b5, pk_bs, a1, pk_bd3E, pk_ck b3, pk_letE, pk_letE, pk_letE, pk_letE, pk_letE, b1, pk_bs, pk_ck b2, pk_ck b2, pk_letE, pk_bs]
    rw [← hV]
    rfl
  · rw [pk_rR_wR, if_neg (by omega), pk_rR_wR, if_neg (by omega), r14 z 5 (by omega), pk_rR_wR, if_pos ⟨rfl, rfl⟩]
  · rw [pk_rR_wR, if_neg (by omega), pk_rR_wR, if_neg (by omega), r14 z 6 (by omega), pk_rR_wR, if_neg (by omega), pk_rR_wR, if_pos ⟨rfl, rfl⟩]
  · rw [pk_rR_wR, if_neg (by omega), pk_rR_wR, if_pos ⟨rfl, rfl⟩]
  · exact hT.of (fun a q1 q2 _ => by rw [row a (by omega) (by omega), (a4 a (by omega)).1])
  · rw [show bk_rI V30 (z + 1) 1 = bk_rI V15 (z + 1) 1 from congrFun (row (z + 1) (by omega) (by omega)) 1, v15 _ _ (by omega)]
    exact h1
  · rw [← hV, pk_rI_ne (by omega), pk_rI_same, if_neg (by omega), pk_rI_same, if_neg (by omega), pk_rI_same, if_pos rfl]
    rfl
  · show bk_rR (bk_wR (bk_wR Y14 z 7 (some (bk_sz Y))) z 9 none) z 9 = none
    rw [pk_rR_wR, if_pos ⟨rfl, rfl⟩]
  · show bk_rI V30 z 11 = nI 0
    rw [← hV, pk_rI_ne (by omega), pk_rI_same, if_pos rfl]
  · rw [slz 12 (by omega) (by omega) (by omega), v15 _ _ (by omega)]; exact h12
  · rw [slz 13 (by omega) (by omega) (by omega), v15 _ _ (by omega)]; exact h13
  · rw [slz 14 (by omega) (by omega) (by omega), v15 _ _ (by omega)]; exact h14
  · rw [← hV, pk_rI_same, if_pos rfl]
  · rw [row a (by omega) (by omega), (a4 a (by omega)).1]
  · rw [rowL, (a4 a (by omega)).2.1]
/-- a text refused: the class -/
theorem pk_JC.ref (h : pk_JC z Y V t u s D P T tl st hs img pl fp r0 r1) (f : pk_fW z u (bk_wI V (z + 1) 1 (nI 0)) V') : pk_CA z (bk_wR Y (z + 54) 1 (some u)) (bk_wI (bk_wI V' z 12 x) z 13 (r0 + nI 1)) (D, P, T, 0, st, hs, img, pl, x, r0 + nI 1, r1) ∧ pk_offR z V (bk_wI (bk_wI V' z 12 x) z 13 (r0 + nI 1)) := by
  have hn := h.ne
  obtain ⟨g1, g2, ⟨g3, g3a, g3b⟩, g4, ⟨g5, g5a⟩, g6, g7, g8, g9, ⟨g10, g10a, g10b⟩, g11⟩ := h
  generalize hW : bk_wI (bk_wI V' z 12 x) z 13 (r0 + nI 1) = W
  have row : ∀ a, a ≠ z → a ≠ z + 1 → a ≠ z + 54 → a ≠ z + 55 → (a ≤ u ∨ u + 20 < a) → W.1 a = V.1 a := fun a q1 q2 q3 q4 q5 => by
    rw [← hW, pk_rowI q1, pk_rowI q1, f.2 a q3 q4 q5, pk_rowI q2]
  have rowL : W.2 = V.2 := by rw [← hW]; exact f.1
  have slz : ∀ k, k ≠ 12 → k ≠ 13 → bk_rI W z k = bk_rI V z k := fun k q1 q2 => by
    rw [← hW, pk_rI_same, if_neg q2, pk_rI_same, if_neg q1, show bk_rI V' z k = bk_rI (bk_wI V (z + 1) 1 (nI 0)) z k from congrFun (f.2 z (by omega) (by omega) (by omega)) k, pk_rI_ne (by omega)]
  have rz : ∀ k, bk_rR (bk_wR Y (z + 54) 1 (some u)) z k = bk_rR Y z k := fun k => by rw [pk_rR_wR, if_neg (by omega)]
  have kp : pk_kp z Y V (bk_wR Y (z + 54) 1 (some u)) W := ⟨Nat.le_refl _, fun a ha => ⟨rfl, pk_rowR (by have := ha.1; omega), row a (by have := ha.1; omega) (by have := ha.1; omega) (by have := ha.1; omega) (by have := ha.1; omega) (by have := ha.1; omega), by rw [rowL]⟩⟩
  refine ⟨⟨t, u, s, g1.wR (Or.inr (Or.inr (Or.inl ⟨rfl, by omega⟩))), g2, ⟨(rz 5).trans g3, (rz 6).trans g3a, (rz 7).trans g3b⟩, g4.of (fun a q1 q2 q3 => row a (by omega) (by omega) (by omega) (by omega) (by omega)), ⟨?_, fun j hj => absurd hj (Nat.not_lt_zero j)⟩, g6.kp kp, (slz 8 (by omega) (by omega)).trans g7, ?_, ?_, ⟨?_, ?_, (slz 14 (by omega) (by omega)).trans g10b⟩, ?_⟩, fun a q1 q2 => ⟨row a (by omega) (by omega) (by omega) (by omega) (by omega), by rw [rowL]⟩⟩
  · rw [← hW, pk_rI_ne (by omega), pk_rI_ne (by omega), show bk_rI V' (z + 1) 1 = bk_rI (bk_wI V (z + 1) 1 (nI 0)) (z + 1) 1 from congrFun (f.2 (z + 1) (by omega) (by omega) (by omega)) 1, pk_rI_same, if_pos rfl]
  · cases img with
    | none => exact (rz 9).trans g8
    | some g =>
      obtain ⟨s', i1, i2, i3⟩ := g8
      exact ⟨s', (rz 9).trans i1, i2.kp kp, (slz 10 (by omega) (by omega)).trans i3⟩
  · cases pl with
    | none => exact (slz 11 (by omega) (by omega)).trans g9
    | some f => exact ⟨(slz 11 (by omega) (by omega)).trans g9.1, fun i hi => (congrFun (row (z + 8) (by omega) (by omega) (by omega) (by omega) (by omega)) i).trans (g9.2 i hi)⟩
  · rw [← hW, pk_rI_same, if_neg (by omega), pk_rI_same, if_pos rfl]
  · rw [← hW, pk_rI_same, if_pos rfl]
  · exact g11.of (by rw [pk_rR_wR, if_neg (by omega)]) (fun a q1 q2 => ⟨row a (by omega) (by omega) (by omega) (by omega) (by omega), by rw [rowL]⟩)
theorem st_1 (hN : 20000 ≤ N) (hI : pk_IA z Y V) : bk_st1 N z (z + 58) (z + 86) Y V x1 x2 x3 x4 x5 (pk_IA z) := by
  obtain ⟨t, u, s, D, P, T, tl, st, hs, img, pl, fp, r0, r1, hJ, hR, hB, hC, hRA, hBA⟩ := hI.e
  obtain ⟨hM, hS, hz, hT, hs5, -⟩ := hJ.o
  have hn := hJ.ne
  obtain ⟨t1, t2⟩ := hJ.2.2.2.2.1
  have tb := hB.2.1.1
  have hF := hJ.1
  have e10 : bk_rR Y z 0 = some (z + 1) := hM.2.1
  rcases pk_ix2 x1 (n := tl + 1) (by omega) with hx | ⟨L, hj, rfl⟩
  · refine ⟨.inl 2, ?_, (fun e he => by cases he; rfl), pk_stT hC hRA hBA rfl (k := 1) (by decide) (v := nI 0) (fun Y1 V1 h1 h2 => ⟨_, ?_, pk_frR.rf⟩)⟩
    · unfold q_X11_shed
      simp only [hM, pk_ckT, pk_bs, pk_letE, pk_bd2E, pk_bd3E, if_true, if_false, eq_self, not_true_eq_false, not_false_eq_true, true_and, and_true, Nat.not_lt_zero, Nat.zero_le, Nat.reduceEqDiff, Nat.reduceLT, Nat.reduceLeDiff, pk_ck, pk_lit, t1, pc_isWithin, pc_needA]
      rw [if_neg (pk_out hx (by omega) (by omega)), pk_bdxL]
    · have h3 : pk_JR (z + 58) (bk_wI V1 (z + 58) 0 (nI 0)) D P T tl st hs img pl fp r0 r1 := pk_JR.w0 h2
      have e20 : bk_rI (bk_wI V1 (z + 58) 0 (nI 0)) (z + 58) 20 = nI tl := h3.2.1.1
      have e9 : q_X12_right N Y1 (bk_wI V1 (z + 58) 0 (nI 0)) (z + 58) (nI 0) (nI 1) = some (nI 0, bk_wI (bk_wI V1 (z + 58) 0 (nI 0)) (z + 58) 0 (nI 1)) := pr_right (c := False) h1 pk_w0 (Or.inl rfl)
      have e23 : q_X12_shed_22 N Y1 (bk_wI V1 (z + 58) 0 (nI 0)) (z + 58) x1 (z + 58) = some (nI 0, bk_wI (bk_wI V1 (z + 58) 0 (nI 0)) (z + 58) 0 (nI 1)) := by
        unfold q_X12_shed_22 q_X12_shed_23
        rw [pk_ck h1.1, show q_X12_right N Y1 (bk_wI V1 (z + 58) 0 (nI 0)) (z + 58) 0 1 = _ from e9, pk_bd2E, if_pos (show nI 0 = (0 : Int32) from rfl)]
        rfl
      unfold q_X12_shed
      rw [pk_ck h1.1, pk_letE]
      by_cases c1 : x1 < 0
      · rw [if_pos c1]
        exact e23
      · have c2 := hx.resolve_left c1
        have c3 : nI tl < x1 := by
          rw [Int32.lt_iff_toInt_lt, nI_toInt (by omega)]
          rw [Int32.le_iff_toInt_le, nI_toInt (by omega)] at c2
          omega
        rw [if_neg c1, show bk_rI (bk_wI V1 (z + 58) 0 0) (z + 58) 20 = nI tl from e20, if_pos c3]
        exact e23
  have hLt : L ≤ tl := by omega
  have hx1 : pk_txC z (bk_wI V (z + 1) 1 (nI 0)) T L := ⟨fun j hj2 => by rw [pk_rI_ne (by omega)]; exact t2 j (by omega), hB.2.1.2, by omega⟩
  obtain ⟨hcL, V1, a1, a2, a3⟩ := pc_tellT (N := N) (u := u) (by omega) hF (by omega) hx1
  obtain ⟨o, o1, o2, o3⟩ := pk_tellX (r := z + 58) (N := N) (L := L) T (by omega) hcL (by omega)
  obtain ⟨V2, b1, b2, b3, b4⟩ := o2 V1 a3
  have fW : pk_fW z u (bk_wI V (z + 1) 1 (nI 0)) V2 := a2.tr b2
  have slz : ∀ k, bk_rI V2 z k = bk_rI V z k := fun k => by
    rw [show bk_rI V2 z k = bk_rI (bk_wI V (z + 1) 1 (nI 0)) z k from congrFun (fW.2 z (by omega) (by omega) (by omega)) k, pk_rI_ne (by omega)]
  have cE : q_X11_shed N Y V z (nI L) = bk_bd3 (q_X8_tell N Y (bk_wI V (z + 1) 1 (nI 0)) (z + 54) (nI L) u) (fun r_17 Y_18 V_19 => if r_17 = nI 0 then bk_ck (bk_sh Y_18 z = (1, 10)) (bk_let (bk_wI V_19 z 12 (-nI 1)) fun V_22 => bk_bd2 (q_X11_beginAnew N Y_18 V_22 z) fun Y_25 V_26 => some (.inr (nI 0, Y_25, V_26))) else bk_ck (bk_sh Y_18 z = (1, 10)) ((bk_rR Y_18 z 2).bind fun b_28 => bk_ck (bk_sh Y_18 b_28 = (1, 7)) (bk_let (bk_wI V_19 z 12 (bk_rI V_19 b_28 5)) fun V_31 => bk_let (bk_wI V_31 z 13 (bk_rI V_31 z 13 + nI 1)) fun V_33 => some (.inr (r_17, Y_18, V_33))))) := by
    unfold q_X11_shed
    simp only [hM, hz, pk_ckT, pk_bs, pk_letE, pk_bd2E, pk_bd3E, if_true, if_false, eq_self, not_true_eq_false, not_false_eq_true, true_and, and_true, Nat.not_lt_zero, Nat.zero_le, Nat.reduceEqDiff, Nat.reduceLT, Nat.reduceLeDiff, pk_ck, pk_lit, t1, pc_isWithin, pc_needA]
    rw [if_pos (pk_inn hj (by omega) rfl), pk_bdxR]
  rw [a1, b1, pk_bd3E] at cE
  have rR : ∀ Y1 V0, pk_Rf Y1 (z + 58) → pk_RA (z + 58) V0 (D, P, T, tl, st, hs, img, pl, fp, r0, r1) → ∃ V', q_X12_shed N Y1 V0 (z + 58) (nI L) = q_X12_shed_169 N Y1 V' (z + 58) ∧ (∀ a, a ≠ z + 58 → (a < z + 58 + 8 ∨ z + 58 + 14 < a) → V'.1 a = V0.1 a) ∧ (∀ k, (0 < k ∧ k < 20) ∨ 50 < k → bk_rI V' (z + 58) k = bk_rI V0 (z + 58) k) ∧ bk_rI V' (z + 58) 0 = nI 0 ∧ bk_rI V' (z + 58) 20 = nI 0 ∧ (∀ a, a ≠ z + 58 → V'.2 a = V0.2 a) ∧ ((o.1 = 0 ∧ pk_gd (z + 58) V' ∧ pk_NT V' (z + 58) o.2.2.1 ∧ ∃ K, pk_KK V' (z + 58) o.2.2.2.1 K ∧ K.length ≤ 1400) ∨ (o.1 ≠ 0 ∧ pk_FR (z + 58) V' o.1 o.2.1)) := by
    intro Y1 V0 h1 h2
    have h2' : pk_JR (z + 58) V0 D P T tl st hs img pl fp r0 r1 := h2
    obtain ⟨Va, c1, c2, c3, c4, c5, c6, c7, c8, c9⟩ := pr_shedT (N := N) (L := L) (T := T) (by omega) h1 h2'.2.1.1 (fun j hj2 => h2'.2.1.2 j (by omega)) hB.2.1.2 hLt tb
    obtain ⟨Vb, d1, d2, d3⟩ := o3 Y1 Va h1 c2
    refine ⟨Vb, by rw [c1, d1], fun a q1 q2 => by rw [d2.1 a q1 q2, c3 a q1 q2], fun k q => ?_, ?_, ?_, fun a q => by rw [d2.2.2.1 a q, c8 a q], d3⟩
    · rw [show bk_rI Vb (z + 58) k = bk_rI Va (z + 58) k from d2.2.1 k (by omega), c4 k (by omega)]
    · rw [show bk_rI Vb (z + 58) 0 = bk_rI Va (z + 58) 0 from d2.2.1 0 (by omega)]; exact c5
    · rw [show bk_rI Vb (z + 58) 20 = bk_rI Va (z + 58) 20 from d2.2.1 20 (by omega)]; exact c6
  by_cases q0 : o.1 = 0
  · rw [q0, if_pos rfl] at cE
    have hD := o1 q0
    have hsh : bk_sh (bk_wR Y (z + 54) 1 (some u)) z = (1, 10) := hM.1
    have d4 := hD.2.2.2.2.1
    obtain ⟨Y3, V3, c1, c2, c3⟩ := pc_beginAnew (N := N) (Y := bk_wR Y (z + 54) 1 (some u)) (V := bk_wI V2 z 12 (-nI 1)) (T := T) (fp := -nI 1) (r0 := r0) (r1 := r1) (by omega) (hF.wR (Or.inr (Or.inr (Or.inl ⟨rfl, by omega⟩)))) hn (by rw [pk_rR_wR, if_neg (by omega)]; exact hz.1) (by rw [pk_rR_wR, if_neg (by omega)]; exact hz.2.1) ((b3 q0).of (fun a q1 q2 _ => pk_rowI (by omega))) hD (by
        rw [pk_rI_ne (by omega), show bk_rI V2 (z + 1) 1 = bk_rI (bk_wI V (z + 1) 1 (nI 0)) (z + 1) 1 from congrFun (fW.2 (z + 1) (by omega) (by omega) (by omega)) 1, pk_rI_same, if_pos rfl]) (by rw [pk_rI_same, if_pos rfl]) (by rw [pk_rI_same, if_neg (by omega), slz]; exact hJ.2.2.2.2.2.2.2.2.2.1.2.1) (by rw [pk_rI_same, if_neg (by omega), slz]; exact hJ.2.2.2.2.2.2.2.2.2.1.2.2)
    rw [pk_ck hsh, pk_letE, c1, pk_bd2E] at cE
    have hoff : pk_offR z V V3 := fun a q1 q2 => by
      obtain ⟨g1, g2⟩ := c3 a q1 q2
      refine ⟨?_, ?_⟩
      · rw [g1, pk_rowI (by omega), fW.2 a (by omega) (by omega) (by omega), pk_rowI (by omega)]
      · rw [g2]
        show V2.2 a = _
        rw [fW.1]
        rfl
    have hB2 : pk_BA (o.2.2.1, o.2.2.2.1, T, 0, (1000 * o.2.2.1 0 4, 0, 0, sp_w0 o.2.2.1), [], none, none, -nI 1, r0, r1) := by
      refine ⟨hD, ⟨Nat.zero_le _, hB.2.1.2⟩, ⟨⟨by show 1000 * o.2.2.1 0 4 ≤ 100000; omega, by show 0 < 64; omega, fun p => sp_w0_le hD, fun p hp => ?_⟩, fun g hg => absurd hg List.not_mem_nil, Nat.zero_le _⟩, fun g hg => by cases hg⟩
      show sp_w0 o.2.2.1 p = 0
      have hp' : 4 * o.2.2.1 0 0 ≤ p := hp
      unfold sp_w0
      rw [if_neg (by omega)]
    refine ⟨.inr (nI 0, Y3, V3), cE, (fun e he => by cases he), pk_stC hC hRA hBA ⟨c2, hoff⟩ hB2 rfl (fun Y1 V0 h1 h2 => ?_)⟩
    have h2' : pk_JR (z + 58) V0 D P T tl st hs img pl fp r0 r1 := h2
    obtain ⟨Va, d1, d2, d3, d5, d6, d7, d8⟩ := rR Y1 V0 h1 h2
    rcases d8 with ⟨-, g1, g2, K, g3, g4⟩ | ⟨g, -⟩
    · obtain ⟨Vb, l1, l2, l3, l4, l5, l6, l7, l8, l9⟩ := pr_169Y (N := N) hN h1 g1 g2 g3 g4 hD
      refine ⟨Vb, by rw [d1, l1], ⟨?_, fun a q => ⟨by rw [l7 a (by omega) (by omega), d2 a (by omega) (by omega)], by rw [l9 a (by omega), d7 a (by omega)]⟩⟩, l2, ⟨?_, fun j hj => absurd hj (Nat.not_lt_zero j)⟩, l3, l4, trivial, l6, l5, ?_, ?_, ?_⟩
      · rw [l8 0 (by omega)]; exact d5
      · rw [l8 20 (by omega)]; exact d6
      · rw [l8 22 (by omega)]; exact g1.2
      · rw [show bk_rI Vb (z + 58 + 7) 0 = bk_rI Va (z + 58 + 7) 0 from congrFun (l7 _ (by omega) (by omega)) 0, show bk_rI Va (z + 58 + 7) 0 = bk_rI V0 (z + 58 + 7) 0 from congrFun (d2 _ (by omega) (by omega)) 0]
        exact h2'.2.2.2.2.2.2.2.2.1
      · rw [show bk_rI Vb (z + 58 + 7) 1 = bk_rI Va (z + 58 + 7) 1 from congrFun (l7 _ (by omega) (by omega)) 1, show bk_rI Va (z + 58 + 7) 1 = bk_rI V0 (z + 58 + 7) 1 from congrFun (d2 _ (by omega) (by omega)) 1]
        exact h2'.2.2.2.2.2.2.2.2.2
    · exact absurd q0 g
  · have hlt : 0 < o.1 ∧ o.1 < 10 := by
      obtain ⟨Va, -, -, -, -, -, -, d8⟩ := rR Y V hC.rf.1 hRA
      rcases d8 with ⟨g, -⟩ | ⟨-, g⟩
      · exact absurd g q0
      · exact g.2.2
    rw [if_neg (show ¬ nI o.1 = nI 0 by rw [nI_eq (by omega) (by omega)]; exact q0)] at cE
    have hsh : bk_sh (bk_wR Y (z + 54) 1 (some u)) z = (1, 10) := hM.1
    have hsh2 : bk_sh (bk_wR Y (z + 54) 1 (some u)) (z + 54) = (1, 7) := hM.2.2.2.2.2.2.2.2.2.2.2.2.2.2.2.2.2.2.2.2.1
    have h2r : bk_rR (bk_wR Y (z + 54) 1 (some u)) z 2 = some (z + 54) := by rw [pk_rR_wR, if_neg (by omega)]; exact hM.2.2.2.1
    have e13 : bk_rI (bk_wI V2 z 12 (nI o.2.1)) z 13 = r0 := by rw [pk_rI_same, if_neg (by omega), slz]; exact hJ.2.2.2.2.2.2.2.2.2.1.2.1
    rw [pk_ck hsh, h2r, pk_bs, pk_ck hsh2, pk_letE, b4 q0, e13, pk_letE] at cE
    obtain ⟨c2, hoff⟩ := hJ.ref (x := nI o.2.1) fW
    have hB2 : pk_BA (D, P, T, 0, st, hs, img, pl, nI o.2.1, r0 + nI 1, r1) := ⟨hB.1, ⟨Nat.zero_le _, hB.2.1.2⟩, hB.2.2⟩
    refine ⟨.inr (nI o.1, bk_wR Y (z + 54) 1 (some u), bk_wI (bk_wI V2 z 12 (nI o.2.1)) z 13 (r0 + nI 1)), cE, (fun e he => by cases he), pk_stC hC hRA hBA ⟨c2, hoff⟩ hB2 rfl (fun Y1 V0 h1 h2 => ?_)⟩
    have h2' : pk_JR (z + 58) V0 D P T tl st hs img pl fp r0 r1 := h2
    obtain ⟨Va, d1, d2, d3, d5, d6, d7, d8⟩ := rR Y1 V0 h1 h2
    rcases d8 with ⟨g, -⟩ | ⟨-, g⟩
    · exact absurd g q0
    · obtain ⟨j1, ⟨j2, j2'⟩, ⟨j3, j3a, j3b, j3c⟩, j4, j5, j6, j7, j8, j8a, j8b⟩ := h2'
      have row : ∀ a, a ≠ z + 58 → (a < z + 58 + 8 ∨ z + 58 + 14 < a) → a ≠ z + 58 + 7 → (bk_wI Va (z + 58 + 7) 0 (bk_rI Va (z + 58 + 7) 0 + nI 1)).1 a = V0.1 a := fun a q1 q2 q3 => by rw [pk_rowI q3, d2 a q1 q2]
      have sl : ∀ k, (0 < k ∧ k < 20) ∨ 50 < k → bk_rI (bk_wI Va (z + 58 + 7) 0 (bk_rI Va (z + 58 + 7) 0 + nI 1)) (z + 58) k = bk_rI V0 (z + 58) k := fun k q => by rw [pk_rI_ne (by omega)]; exact d3 k q
      have rL : ∀ a, a ≠ z + 58 → (bk_wI Va (z + 58 + 7) 0 (bk_rI Va (z + 58 + 7) 0 + nI 1)).2 a = V0.2 a := d7
      have e7 : ∀ k, bk_rI Va (z + 58 + 7) k = bk_rI V0 (z + 58 + 7) k := fun k => congrFun (d2 _ (by omega) (by omega)) k
      refine ⟨_, by rw [d1, pr_169F h1 g], ⟨?_, fun a q => ⟨row a (by omega) (by omega) (by omega), rL a (by omega)⟩⟩, j1.of (fun a q1 q2 => row a (by omega) (by omega) (by omega)) (fun k q1 q2 => sl k (by omega)), ⟨?_, fun j hj => absurd hj (Nat.not_lt_zero j)⟩, ⟨(sl _ (by omega)).trans j3, (sl _ (by omega)).trans j3a, (sl _ (by omega)).trans j3b, fun p hp => (congrFun (rL _ (by omega)) p).trans (j3c p hp)⟩, (sl _ (by omega)).trans j4, j5.of (row _ (by omega) (by omega) (by omega)) (rL _ (by omega)), ?_, ?_, ?_, ?_, ?_⟩
      · rw [pk_rI_ne (by omega)]; exact d5
      · rw [pk_rI_ne (by omega)]; exact d6
      · cases img with
        | none => exact (sl _ (by omega)).trans j6
        | some g =>
          obtain ⟨i1, i2, i3, i4, i5, i6, i7⟩ := j6
          exact ⟨(sl _ (by omega)).trans i1, (sl _ (by omega)).trans i2, (sl _ (by omega)).trans i3, (sl _ (by omega)).trans i4, (sl _ (by omega)).trans i5, fun p hp => (congrFun (rL _ (by omega)) p).trans (i6 p hp), i7.of (row _ (by omega) (by omega) (by omega)) (rL _ (by omega))⟩
      · cases pl with
        | none => exact (sl _ (by omega)).trans j7
        | some f => exact ⟨(sl _ (by omega)).trans j7.1, fun i hi => (congrFun (row _ (by omega) (by omega) (by omega)) i).trans (j7.2 i hi)⟩
      · rw [pk_rI_ne (by omega)]; exact g.2.1
      · rw [pk_rI_same, if_pos rfl, e7, j8a]
      · rw [pk_rI_same, if_neg (by omega), e7]; exact j8b
end
