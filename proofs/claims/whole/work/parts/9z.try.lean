/-! the lines: trials, rules -/
section
variable {N z t u s r a b c d k n j h m l p q q0 md wa s' i f gg v S L g lo hi w : Nat} {Y Y2 Y' : bk_Lay} {V V' V1 V2 : bk_Val} {x y x1 x2 x3 x4 x5 ee : Int32} {T T' R G In : Nat → Nat} {D D' : Nat → Nat → Nat} {P P' : Nat → List Nat} {B B' : Nat → Bool} {K : List Nat} {o : pk_O} {X : Option (Int32 × bk_Val)} {XR : Option bk_Val}
theorem pk_LC.rows (h : pk_LC z u V T L p D P B) (u1 : z + 10 ≤ u) (u2 : u + 22 ≤ z + 54) (f : ∀ x, (x ≤ u ∨ u + 20 < x) → V'.1 x = V.1 x) (hC : pk_CT V' u D' P') : pk_LC z u V' T L p D' P' B := by
  obtain ⟨⟨⟨a1, a2⟩, ⟨b1, b2, b3, b4⟩, h3, h4⟩, -, s, c1, c2⟩ := h
  have g : ∀ x j, (x ≤ u ∨ u + 20 < x) → bk_rI V' x j = bk_rI V x j := fun x j q => congrFun (f x q) j
  exact ⟨⟨⟨fun j hj => (g _ _ (by omega)).trans (a1 j hj), a2⟩, ⟨(g _ _ (by omega)).trans b1, (g _ _ (by omega)).trans b2, (g _ _ (by omega)).trans b3, (g _ _ (by omega)).trans b4⟩, h3, (g _ _ (by omega)).trans h4⟩, hC, s, (g _ _ (by omega)).trans c1, c2⟩
theorem pk_LR.rows (h : pk_LR r V T L p D P B) (f : ∀ k, k < 32 ∨ 42 < k → bk_rI V' r k = bk_rI V r k) (f2 : ∀ a, a ≠ r → (a < r + 8 ∨ r + 11 < a) → V'.1 a = V.1 a) (fl : V'.2 = V.2) (hn : pk_NT V' r D') : pk_LR r V' T L p D' P B := by
  obtain ⟨a1, a2, ⟨K, a3, a4⟩, a5⟩ := h
  exact ⟨a1.off (fun j hj => f j (by omega)) (f2 _ (by omega) (by omega)) (by show V'.2 r 31 = V.2 r 31; rw [fl]), hn, ⟨K, a3.of (fun j q1 q2 _ => f j (by omega)) (f2 _ (by omega) (by omega)), a4⟩, a5.of (f _ (by omega)) (by show V'.2 r 49 = V.2 r 49; rw [fl])⟩
theorem pk_LR.w10 (h : pk_LR r V T L p D P B) (hj : 2 * D 7 0 ≤ j) : pk_LR r (bk_wI V (r + 10) j x) T L p D P B := by
  refine h.rows (fun k _ => by rw [pk_rI_ne (by omega)]) (fun a q1 q2 => pk_rowI (by omega)) rfl ?_
  obtain ⟨a1, a2, a3, a4, a5⟩ := pk_NT_iff.mp h.2.1
  refine pk_NT_iff.mpr ⟨a1.cg (fun k _ _ => by rw [pk_rI_ne (by omega)]) (fun _ => rfl), a2.cg (pk_rowI (by omega)) (fun _ => rfl), a3.cg (pk_rowI (by omega)) (by rw [pk_rI_ne (by omega)]) (fun _ _ _ _ => rfl), ⟨by rw [pk_rI_ne (by omega)]; exact a4.1, fun k hk => ?_⟩, a5.cg (pk_rowI (by omega)) (by rw [pk_rI_ne (by omega)]) (fun _ _ _ _ => rfl)⟩
  rw [pk_rI_same, if_neg (by omega), pk_rI_same, if_neg (by omega)]
  exact a4.2 k hk
theorem pk_LR.w11 (h : pk_LR r V T L p D P B) (hj : 4 * D 10 0 ≤ j) : pk_LR r (bk_wI V (r + 11) j x) T L p D P B := by
  refine h.rows (fun k _ => by rw [pk_rI_ne (by omega)]) (fun a q1 q2 => pk_rowI (by omega)) rfl ?_
  obtain ⟨a1, a2, a3, a4, a5⟩ := pk_NT_iff.mp h.2.1
  refine pk_NT_iff.mpr ⟨a1.cg (fun k _ _ => by rw [pk_rI_ne (by omega)]) (fun _ => rfl), a2.cg (pk_rowI (by omega)) (fun _ => rfl), a3.cg (pk_rowI (by omega)) (by rw [pk_rI_ne (by omega)]) (fun _ _ _ _ => rfl), a4.cg (pk_rowI (by omega)) (by rw [pk_rI_ne (by omega)]) (fun _ _ _ _ => rfl), ⟨by rw [pk_rI_ne (by omega)]; exact a5.1, fun k hk => ?_⟩⟩
  rw [pk_rI_same, if_neg (by omega), pk_rI_same, if_neg (by omega), pk_rI_same, if_neg (by omega), pk_rI_same, if_neg (by omega)]
  exact a5.2 k hk
theorem pk_LR.w8 (h : pk_LR r V T L p D P B) (hj : 4 * D 2 0 ≤ j) : pk_LR r (bk_wI V (r + 8) j x) T L p D P B := by
  refine h.rows (fun k _ => by rw [pk_rI_ne (by omega)]) (fun a q1 q2 => pk_rowI (by omega)) rfl ?_
  obtain ⟨a1, a2, a3, a4, a5⟩ := pk_NT_iff.mp h.2.1
  refine pk_NT_iff.mpr ⟨a1.cg (fun k _ _ => by rw [pk_rI_ne (by omega)]) (fun _ => rfl), a2.cg (pk_rowI (by omega)) (fun _ => rfl), ⟨by rw [pk_rI_ne (by omega)]; exact a3.1, fun k hk => ?_⟩, a4.cg (pk_rowI (by omega)) (by rw [pk_rI_ne (by omega)]) (fun _ _ _ _ => rfl), a5.cg (pk_rowI (by omega)) (by rw [pk_rI_ne (by omega)]) (fun _ _ _ _ => rfl)⟩
  rw [pk_rI_same, if_neg (by omega), pk_rI_same, if_neg (by omega), pk_rI_same, if_neg (by omega), pk_rI_same, if_neg (by omega)]
  exact a3.2 k hk
theorem pk_FR.wr {e : Nat} (h : pk_FR r V k e) (ha : a ≠ r) : pk_FR r (bk_wI V a j x) k e := h.off (fun i hi => by rw [pk_rI_ne (fun g => ha g.symm)])
theorem pk_FR.wsl {e : Nat} (h : pk_FR r V k e) (ha : 22 < j) : pk_FR r (bk_wI V r j x) k e := ⟨by rw [pk_rI_same, if_neg (by omega)]; exact h.1, by rw [pk_rI_same, if_neg (by omega)]; exact h.2.1, h.2.2⟩
/-- a number of a line, the reference -/
theorem pr_nm (hN : 1000 ≤ N) (hS : pk_Rf Y r) (h : pk_LR r V T L p D P B) (hlo : lo < 10000) (hhi : hi < 10000) : (tq_no T L p lo hi = 0 → ∃ V', q_X12_number N Y V r (nI lo) (nI hi) = some (nI (tq_v T L p), V') ∧ pk_frT r V V' ∧ pk_LR r V' T L (tq_e T L p) D P B) ∧ (tq_no T L p lo hi ≠ 0 → ∃ V', q_X12_number N Y V r (nI lo) (nI hi) = some (nI (tq_v T L p), V') ∧ pk_frU r V V' ∧ pk_FR r V' (tq_no T L p lo hi) (tq_s T L p)) := by
  obtain ⟨n1, n2⟩ := pr_num (N := N) hN hS h.1 hlo hhi
  refine ⟨fun q => ?_, n2⟩
  obtain ⟨V', e1, e2, e3⟩ := n1 q
  have ge := tq_e_gt (T := T) h.1.1.2.2.1 h.1.2.2.1 (tq_no0 q).1
  exact ⟨V', e1, e2, h.frT e2 e3 (by omega)⟩
theorem pc_nm (H : pk_cL N z u Y) (h : pk_LC z u V T L p D P B) (hlo : lo < 10000) (hhi : hi < 10000) : (tq_no T L p lo hi = 0 → ∃ V', q_X8_readNumber N Y V (z + 54) (nI lo) (nI hi) = some (nI 1, V') ∧ pk_fW z u V V' ∧ bk_rI V' (z + 54) 3 = nI (tq_v T L p) ∧ pk_LC z u V' T L (tq_e T L p) D P B) ∧ (tq_no T L p lo hi ≠ 0 → ∃ V', q_X8_readNumber N Y V (z + 54) (nI lo) (nI hi) = some (nI 0, V') ∧ pk_fW z u V V' ∧ pk_FC z V' (tq_no T L p lo hi) (tq_s T L p)) := by
  obtain ⟨n1, n2⟩ := pc_num (N := N) H.1 H.2.1 h.1 hlo hhi
  constructor
  · intro q
    obtain ⟨V', e1, e2, e3, e4⟩ := n1 q
    exact ⟨V', e1, e2.fW, e3, h.fN e2 H.2.2.2.2.2 e4⟩
  · intro q
    obtain ⟨V', e1, e2, e3⟩ := n2 q
    exact ⟨V', e1, e2.fW, e3⟩
theorem pc_go (H : pk_cL N z u Y) (h : pk_LC z u V T L p D P B) : ∃ V', q_X9_step N Y V (z + 55) = some V' ∧ pk_fW z u V V' ∧ pk_LC z u V' T L (tq_e T L p) D P B := by
  obtain ⟨V1, g1, g2, g3⟩ := pc_goes (N := N) H.1 H.2.1 h.1
  exact ⟨V1, g1, g2.fN.fW, h.fN g2.fN H.2.2.2.2.2 g3⟩
theorem pr_go (hN : 1000 ≤ N) (hS : pk_Rf Y r) (h : pk_LR r V T L p D P B) (hk : tq_k T L p ≠ 0) : ∃ V', q_X12_goes N Y V r = some V' ∧ pk_frT r V V' ∧ pk_LR r V' T L (tq_e T L p) D P B := by
  obtain ⟨V1, g1, g2, g3⟩ := pr_goesP (N := N) hN hS h.1
  have ge := tq_e_gt (T := T) h.1.1.2.2.1 h.1.2.2.1 hk
  exact ⟨V1, g1, g2, h.frT g2 g3 (by omega)⟩
theorem pc_ref (H : pk_cL N z u Y) (h : pk_LC z u V T L p D P B) (hk : k ≠ 0) : pk_oC z u T L V (bk_bd2 (q_X8_refuse N Y V (z + 54) (nI k)) (fun r_20 V_21 => bk_ck (r_20 = nI 0 ∨ r_20 = nI 1) (some (r_20, V_21)))) (tq_oF k (tq_s T L p)) := by
  obtain ⟨V', e1, e2, e3⟩ := pc_refuse8 (N := N) (k := k) H.2.1 h.1
  exact pk_oC.F hk (by rw [e1, pk_bd2E, pk_ck (Or.inl rfl)]) e2.fW e3
/-! a trial -/
theorem pc_tryE (H : pk_cL N z u Y) (h : pk_LC z u V T L p D P B) (hl : D 7 0 ≤ 6) : q_X8_readTry N Y V (z + 54) = if D 7 0 < 6 then (q_X9_step N Y V (z + 55)).bind (fun V_11 => bk_bd2 (q_X8_readNumber N Y V_11 (z + 54) (nI 1) (nI 99)) (fun r_14 V_15 => if r_14 = nI 0 then some (nI 0, V_15) else bk_bd2 (q_X8_readNumber N Y V_15 (z + 54) (nI 1) (nI 99)) (fun r_17 V_18 => if r_17 = nI 0 then some (nI 0, V_18) else (q_X10_add N Y V_18 (u + 7) (bk_rI V_15 (z + 54) 3) (bk_rI V_18 (z + 54) 3)).bind (fun V_20 => some (nI 1, V_20))))) else bk_bd2 (q_X8_refuse N Y V (z + 54) (nI 2)) (fun r_20 V_21 => bk_ck (r_20 = nI 0 ∨ r_20 = nI 1) (some (r_20, V_21))) := by
  obtain ⟨hN, hM, hS, hi, u1, u2⟩ := H
  have e1 : bk_rI V (u + 7) 2 = nI (D 7 0) := (pk_CT_iff.mp h.2.1).2.2.2.1.1
  unfold q_X8_readTry
  simp (disch := omega) only [hM, hS, hi, pk_ckT, pk_bs, pk_letE, pk_bd2E, pk_bd3E, if_true, if_false, eq_self, not_true_eq_false, not_false_eq_true, true_and, and_true, Nat.not_lt_zero, Nat.zero_le, Nat.reduceEqDiff, Nat.reduceLT, Nat.reduceLeDiff, pk_ck, pk_lit, e1, nI_ltI]
theorem pc_tadd (H : pk_cL N z u Y) (h : pk_LC z u V T L p D P B) (hl : D 7 0 < 6) : ∃ V', q_X10_add N Y V (u + 7) (nI a) (nI b) = some V' ∧ pk_fW z u V V' ∧ pk_LC z u V' T L p (tq_Da D 7 8 9 (fun i => if i = 8 then a else b)) P B := by
  obtain ⟨hN, hM, hS, hi, u1, u2⟩ := H
  have e1 : bk_rI V (u + 7) 2 = nI (D 7 0) := (pk_CT_iff.mp h.2.1).2.2.2.1.1
  refine ⟨bk_wI (bk_wI (bk_wI V (u + 8) (D 7 0) (nI a)) (u + 9) (D 7 0) (nI b)) (u + 7) 2 (nI (D 7 0 + 1)), ?_, ((pk_fW.wI (by omega)).tr (pk_fW.wI (by omega))).tr (pk_fW.wI (by omega)), h.rows u1 u2 (fun x q => by rw [pk_rowI (by omega), pk_rowI (by omega), pk_rowI (by omega)]) (h.2.1.w5 (fun a q1 q2 q3 q4 => by rw [pk_rowI (by omega), pk_rowI (by omega), pk_rowI (by omega)]) (by rw [pk_rI_same, if_pos rfl]) (fun k => by rw [pk_rI_ne (by omega), pk_rI_ne (by omega), pk_rI_same]; rfl) (fun k => by rw [pk_rI_ne (by omega), pk_rI_same, pk_rI_ne (by omega)]; rfl))⟩
  unfold q_X10_add
  have e2 : bk_rI (bk_wI V (u + 8) (D 7 0) (nI a)) (u + 7) 2 = nI (D 7 0) := (pk_rI_ne (by omega)).trans e1
  have e3 : bk_rI (bk_wI (bk_wI V (u + 8) (D 7 0) (nI a)) (u + 9) (D 7 0) (nI b)) (u + 7) 2 = nI (D 7 0) := (pk_rI_ne (by omega)).trans e2
  rw [e1]
  simp (disch := omega) only [hS, pk_ckT, pk_bs, pk_letE, pk_bd2E, pk_bd3E, if_true, if_false, eq_self, not_true_eq_false, not_false_eq_true, true_and, and_true, Nat.not_lt_zero, Nat.zero_le, Nat.reduceEqDiff, Nat.reduceLT, Nat.reduceLeDiff, pk_ck, pk_lit, nI_leI, nI_clamp, pk_inE, e2, e3, nI_add]
  rw [if_neg (by omega)]
/-- the reference's trial from its first number on -/
theorem pr_234 (hS : pk_Rf Y r) (hl : D 7 0 < 6) (hg : pk_gd r V) (g1 : q_X12_goes N Y V r = some V1) (h41 : bk_rI V1 r 41 = nI (D 7 0)) (n1 : q_X12_number N Y V1 r (nI 1) (nI 99) = some (x1, V2)) (h42 : bk_rI V2 r 41 = nI (D 7 0)) (n2 : q_X12_number N Y (bk_wI V2 (r + 10) (2 * D 7 0) x1) r (nI 1) (nI 99) = some (x2, V')) (h43 : bk_rI V' r 41 = nI (D 7 0)) : q_X12_line0_234 N Y V r = q_X12_line0_384 N Y (bk_wI (bk_wI V' (r + 10) (2 * D 7 0 + 1) x2) r 41 (nI (D 7 0 + 1))) r := by
  unfold q_X12_line0_234
  have e2 : bk_rI (bk_wI V2 (r + 10) (2 * D 7 0) x1) r 41 = nI (D 7 0) := (pk_rI_ne (by omega)).trans h42
  have e3 : bk_rI (bk_wI V' (r + 10) (2 * D 7 0 + 1) x2) r 41 = nI (D 7 0) := (pk_rI_ne (by omega)).trans h43
  rw [pk_ck hS.1, pr_goodY hS hg, pk_bs, if_neg pk_n10, g1, pk_bs]
  simp (disch := omega) only [hS, pk_ckT, pk_bs, pk_letE, pk_bd2E, pk_bd3E, if_true, if_false, eq_self, not_true_eq_false, not_false_eq_true, true_and, and_true, Nat.not_lt_zero, Nat.zero_le, Nat.reduceEqDiff, Nat.reduceLT, Nat.reduceLeDiff, pk_ck, pk_lit, n1, h41, pk_mul, nI_clamp, pk_inE, e2, n2, nI_add, e3]
theorem ln_try (H : pk_lH N z u Y T L p D P B) (hw : tq_w T L p = 26) : pk_ln N z u r Y T L p D P B := by
  have ee := H.ends
  obtain ⟨hN, hC, hL, hp, hD, hP0, hP1, hk⟩ := H
  have ⟨hN1, hM, hSd, hi, u1, u2⟩ := hC
  have d7 := (pk_DB_iff.mp hD).2.2.2.1.1
  have r41 : ∀ V, pk_LR r V T L p D P B → bk_rI V r 41 = nI (D 7 0) := fun V h => (pk_NT_iff.mp h.2.1).2.2.2.1.1
  by_cases q0 : D 7 0 < 6
  · have rl : ∀ Y2 V, pk_Rf Y2 r → pk_LR r V T L p D P B → q_X12_line0 N Y2 V r = q_X12_line0_234 N Y2 V r := by
      intro Y2 V hS h
      rw [pr_line26 (by omega) hS h.1 hw, r41 V h, if_neg (show ¬ nI (D 7 0) = nI 6 by rw [nI_eq (by omega) (by omega)]; omega)]
    by_cases q1 : tq_no T L (tq_e T L p) 1 99 = 0
    · obtain ⟨m0, m1, m2⟩ := tq_no0 q1
      have e2 := tq_e_gt (T := T) hL ee.2 m0
      have e3 := tq_e_le (T := T) hL ee.2
      by_cases q2 : tq_no T L (tq_e T L (tq_e T L p)) 1 99 = 0
      · obtain ⟨k0, k1, k2⟩ := tq_no0 q2
        have e4 := tq_e_gt (T := T) hL e3 k0
        refine ⟨(0, tq_e T L (tq_e T L (tq_e T L p)), tq_Da D 7 8 9 (fun i => if i = 8 then tq_v T L (tq_e T L p) else tq_v T L (tq_e T L (tq_e T L p))), P, B), fun _ => ⟨by show p < tq_e T L (tq_e T L (tq_e T L p)); omega, tq_e_le hL e3, hD.w5 q0 ⟨m1, m2, k1, k2⟩, hP0, hP1⟩, fun V h => ?_, fun Y2 V hS h => ?_⟩
        · rw [pc_line26 hC h.1 hw]
          refine pc_sgn hC ?_
          obtain ⟨V1, a1, a2, a3⟩ := pc_go hC h
          obtain ⟨V2, b1, b2, b3, b4⟩ := (pc_nm (lo := 1) (hi := 99) hC a3 (by omega) (by omega)).1 q1
          obtain ⟨V3, c1, c2, c3, c4⟩ := (pc_nm (lo := 1) (hi := 99) hC b4 (by omega) (by omega)).1 q2
          obtain ⟨V4, d1, d2, d3⟩ := pc_tadd (a := tq_v T L (tq_e T L p)) (b := tq_v T L (tq_e T L (tq_e T L p))) hC c4 q0
          refine Or.inl ⟨rfl, V4, ?_, ((a2.tr b2).tr c2).tr d2, d3⟩
          rw [pc_tryE hC h d7, if_pos q0, a1, pk_bs, b1, pk_bd2E, if_neg (show ¬ nI 1 = nI 0 by decide), c1, pk_bd2E, if_neg (show ¬ nI 1 = nI 0 by decide), b3, c3, d1, pk_bs]
        · rw [rl Y2 V hS h]
          obtain ⟨V1, a1, a2, a3⟩ := pr_go (N := N) (by omega) hS h hk
          obtain ⟨V2, b1, b2, b3⟩ := (pr_nm (N := N) (lo := 1) (hi := 99) (by omega) hS a3 (by omega) (by omega)).1 q1
          have b4 : pk_LR r (bk_wI V2 (r + 10) (2 * D 7 0) (nI (tq_v T L (tq_e T L p)))) T L (tq_e T L (tq_e T L p)) D P B := b3.w10 (by omega)
          obtain ⟨V3, c1, c2, c3⟩ := (pr_nm (N := N) (lo := 1) (hi := 99) (by omega) hS b4 (by omega) (by omega)).1 q2
          have c4 : pk_LR r (bk_wI V3 (r + 10) (2 * D 7 0 + 1) (nI (tq_v T L (tq_e T L (tq_e T L p))))) T L (tq_e T L (tq_e T L (tq_e T L p))) D P B := c3.w10 (by omega)
          have n7 := fun V (hn : pk_NT V r D) => (pk_NT_iff.mp hn).2.2.2.1.1
          refine Or.inl ⟨rfl, _, pr_234 hS q0 h.1.2.2.2 a1 (n7 _ a3.2.1) b1 (n7 _ b3.2.1) c1 (n7 _ c3.2.1), ((((a2.toW.tr b2.toW).tr (pk_frW.wr (by omega))).tr c2.toW).tr (pk_frW.wr (by omega))).tr (pk_frW.ws (by omega)), c4.rows (fun k q => by rw [pk_rI_same, if_neg (by omega)]) (fun a q1 q2 => pk_rowI q1) rfl (c4.2.1.w5 (fun a q1 q2 q3 => pk_rowI (by omega)) (fun k q1 q2 q3 => by rw [pk_rI_same, if_neg q3]) (by rw [pk_rI_same, if_pos rfl]) (fun k hk => by rw [pk_rI_ne (by omega)]) ?_ ?_)⟩
          · rw [pk_rI_ne (by omega), pk_rI_same, if_neg (by omega), show bk_rI V3 (r + 10) (2 * D 7 0) = bk_rI (bk_wI V2 (r + 10) (2 * D 7 0) (nI (tq_v T L (tq_e T L p)))) (r + 10) (2 * D 7 0) from congrFun (c2.1 (r + 10) (by omega)) _, pk_rI_same, if_pos rfl]
            rfl
          · rw [pk_rI_ne (by omega), pk_rI_same, if_pos rfl]
            rfl
      · refine ⟨tq_oF (tq_no T L (tq_e T L (tq_e T L p)) 1 99) (tq_s T L (tq_e T L (tq_e T L p))), pk_oB.F q2, fun V h => ?_, fun Y2 V hS h => ?_⟩
        · rw [pc_line26 hC h.1 hw]
          refine pc_sgn hC ?_
          obtain ⟨V1, a1, a2, a3⟩ := pc_go hC h
          obtain ⟨V2, b1, b2, b3, b4⟩ := (pc_nm (lo := 1) (hi := 99) hC a3 (by omega) (by omega)).1 q1
          obtain ⟨V3, c1, c2, c3⟩ := (pc_nm (lo := 1) (hi := 99) hC b4 (by omega) (by omega)).2 q2
          refine pk_oC.F q2 ?_ ((a2.tr b2).tr c2) c3
          rw [pc_tryE hC h d7, if_pos q0, a1, pk_bs, b1, pk_bd2E, if_neg (show ¬ nI 1 = nI 0 by decide), c1, pk_bd2E, if_pos rfl]
        · rw [rl Y2 V hS h]
          obtain ⟨V1, a1, a2, a3⟩ := pr_go (N := N) (by omega) hS h hk
          obtain ⟨V2, b1, b2, b3⟩ := (pr_nm (N := N) (lo := 1) (hi := 99) (by omega) hS a3 (by omega) (by omega)).1 q1
          have b4 : pk_LR r (bk_wI V2 (r + 10) (2 * D 7 0) (nI (tq_v T L (tq_e T L p)))) T L (tq_e T L (tq_e T L p)) D P B := b3.w10 (by omega)
          obtain ⟨V3, c1, c2, c3⟩ := (pr_nm (N := N) (lo := 1) (hi := 99) (by omega) hS b4 (by omega) (by omega)).2 q2
          have n7 := fun V (hn : pk_NT V r D) => (pk_NT_iff.mp hn).2.2.2.1.1
          have e9 := pr_234 hS q0 h.1.2.2.2 a1 (n7 _ a3.2.1) b1 (n7 _ b3.2.1) c1 ((c2.2.1 41 (by omega)).trans (n7 _ b4.2.1))
          have f9 : pk_FR r (bk_wI (bk_wI V3 (r + 10) (2 * D 7 0 + 1) (nI (tq_v T L (tq_e T L (tq_e T L p))))) r 41 (nI (D 7 0 + 1))) (tq_no T L (tq_e T L (tq_e T L p)) 1 99) (tq_s T L (tq_e T L (tq_e T L p))) := (c3.wr (by omega)).wsl (by omega)
          exact pk_oK.F q2 (by rw [e9, pr_384F hS f9]) (((((a2.toW.tr b2.toW).tr (pk_frW.wr (by omega))).tr c2.toW).tr (pk_frW.wr (by omega))).tr (pk_frW.ws (by omega))) f9
    · refine ⟨tq_oF (tq_no T L (tq_e T L p) 1 99) (tq_s T L (tq_e T L p)), pk_oB.F q1, fun V h => ?_, fun Y2 V hS h => ?_⟩
      · rw [pc_line26 hC h.1 hw]
        refine pc_sgn hC ?_
        obtain ⟨V1, a1, a2, a3⟩ := pc_go hC h
        obtain ⟨V2, b1, b2, b3⟩ := (pc_nm (lo := 1) (hi := 99) hC a3 (by omega) (by omega)).2 q1
        refine pk_oC.F q1 ?_ (a2.tr b2) b3
        rw [pc_tryE hC h d7, if_pos q0, a1, pk_bs, b1, pk_bd2E, if_pos rfl]
      · rw [rl Y2 V hS h]
        obtain ⟨V1, a1, a2, a3⟩ := pr_go (N := N) (by omega) hS h hk
        obtain ⟨V2, b1, b2, b3⟩ := (pr_nm (N := N) (lo := 1) (hi := 99) (by omega) hS a3 (by omega) (by omega)).2 q1
        have n7 := fun V (hn : pk_NT V r D) => (pk_NT_iff.mp hn).2.2.2.1.1
        have b4 : pk_FR r (bk_wI V2 (r + 10) (2 * D 7 0) (nI (tq_v T L (tq_e T L p)))) (tq_no T L (tq_e T L p) 1 99) (tq_s T L (tq_e T L p)) := b3.wr (by omega)
        have h42 : bk_rI V2 r 41 = nI (D 7 0) := (b2.2.1 41 (by omega)).trans (n7 _ a3.2.1)
        have e9 := pr_234 hS q0 h.1.2.2.2 a1 (n7 _ a3.2.1) b1 h42 (pr_numF hS b4) ((pk_rI_ne (by omega)).trans h42)
        have f9 : pk_FR r (bk_wI (bk_wI (bk_wI V2 (r + 10) (2 * D 7 0) (nI (tq_v T L (tq_e T L p)))) (r + 10) (2 * D 7 0 + 1) (nI 0)) r 41 (nI (D 7 0 + 1))) (tq_no T L (tq_e T L p) 1 99) (tq_s T L (tq_e T L p)) := (b4.wr (by omega)).wsl (by omega)
        exact pk_oK.F q1 (by rw [e9, pr_384F hS f9]) ((((a2.toW.tr b2.toW).tr (pk_frW.wr (by omega))).tr (pk_frW.wr (by omega))).tr (pk_frW.ws (by omega))) f9
  · refine ⟨tq_oF 2 (tq_s T L p), pk_oB.F (by omega), fun V h => ?_, fun Y2 V hS h => ?_⟩
    · rw [pc_line26 hC h.1 hw]
      refine pc_sgn hC ?_
      rw [pc_tryE hC h d7, if_neg q0]
      exact pc_ref hC h (by omega)
    · rw [pr_line26 (by omega) hS h.1 hw, r41 V h, if_pos (show nI (D 7 0) = nI 6 by rw [show D 7 0 = 6 by omega])]
      obtain ⟨V1, w1, w2, w3, -, -⟩ := pr_wrongY (N := N) (k := 2) hS h.1 (by omega)
      refine pk_oK.F (by omega) ?_ w2.toW w3
      rw [w1, pk_bs]
      unfold q_X12_line0_234
      rw [pk_ck hS.1, pr_goodN hS w3, pk_bs, if_pos (show nI 0 = (0 : Int32) from rfl)]
end
