/-! feed, feel, fits -/
theorem fa_byte_low (x : Int32) : (x &&& 255).toInt8 = x.toInt8 := by
  apply Int8.toBitVec_inj.1
  apply BitVec.eq_of_getLsbD_eq
  intro i hi
  have h2 : (255 : Int32).toBitVec.getLsbD i = true := by
    have : ∀ j : Fin 8, (255 : Int32).toBitVec.getLsbD j.val = true := by decide +kernel
    exact this ⟨i, hi⟩
  have h4 : (x &&& 255).toBitVec.getLsbD i = x.toBitVec.getLsbD i := by
    show (x.toBitVec &&& (255 : Int32).toBitVec).getLsbD i = _
    rw [BitVec.getLsbD_and, h2, Bool.and_true]
  have h3 : i < 32 := by omega
  first
    | (show (((x &&& 255).toBitVec).signExtend 8).getLsbD i = (x.toBitVec.signExtend 8).getLsbD i; rw [BitVec.getLsbD_signExtend, BitVec.getLsbD_signExtend, if_pos h3, if_pos h3, h4])
    | (show (((x &&& 255).toBitVec).setWidth 8).getLsbD i = (x.toBitVec.setWidth 8).getLsbD i; rw [BitVec.getLsbD_setWidth, BitVec.getLsbD_setWidth, h4])
    | (simp [hi, h3, h4]; done)
section
variable {N z t u s tl r a b c d k n j h m l p q0 md wa s' : Nat} {Y Y' : bk_Lay} {V V' V2 W : bk_Val} {x y x1 x2 x3 x4 x5 : Int32} {D : Nat → Nat → Nat} {P : Nat → List Nat} {T T' w : Nat → Nat} {st st' g : pk_St} {hs hs' : List pk_St} {img img' : Option (pk_St × List pk_St)} {pl : Option (Nat → Nat)} {fp r0 r1 : Int32} {A B : pk_A}
def sp_b (x : Int32) (k : Nat) : Nat := (bk_shr x (nI k)).toBitVec.toNat % 256
theorem pk_byr (k : Nat) : (bk_shr x (nI k)) &&& nI 255 = nI (sp_b x k) := pk_and _ 8 (by decide)
theorem pk_byc (k : Nat) : vp_nar .byte (bk_i2b (bk_shr x (nI k))) = pk_by (sp_b x k) := by
  rw [vp_nar_byte]
  unfold bk_i2b pk_by
  rw [← pk_byr, show nI 255 = (255 : Int32) from rfl, fa_byte_low, Int8.toInt8_toInt32]
/-- the tape with a number behind it -/
def sp_add (T : Nat → Nat) (tl : Nat) (x : Int32) : Nat → Nat := fun j => if j = tl then sp_b x 24 else if j = tl + 1 then sp_b x 16 else if j = tl + 2 then sp_b x 8 else if j = tl + 3 then sp_b x 0 else T j
theorem sp_add_lt (h : ∀ j, T j < 256) : ∀ j, sp_add T tl x j < 256 := by
  intro j
  unfold sp_add sp_b
  split
  · omega
  · split
    · omega
    · split
      · omega
      · split
        · omega
        · exact h j
theorem pk_m8 (h : 8 ≤ a) : nI a + -nI 8 = nI (a - 8) := by
  rw [← Int32.sub_eq_add_neg, pk_sub h]
def pk_tp (z : Nat) (V V' : bk_Val) : Prop := V'.2 = V.2 ∧ (∀ a, a ≠ z + 1 → a ≠ z + 2 → V'.1 a = V.1 a) ∧ V'.1 (z + 1) 0 = V.1 (z + 1) 0
theorem pc_add (hN : 20000 ≤ N) (hM : pk_Mn Y z) (h1 : bk_rI V (z + 1) 1 = nI tl) (h2 : ∀ j, j < tl → bk_rI V (z + 2) j = pk_by (T j)) (hl : tl + 4 ≤ 700) : ∃ V', q_X7_add N Y V (z + 1) x = some V' ∧ bk_rI V' (z + 1) 1 = nI (tl + 4) ∧ (∀ j, j < tl + 4 → bk_rI V' (z + 2) j = pk_by (sp_add T tl x j)) ∧ V'.2 = V.2 ∧ ∀ a, a ≠ z + 1 → a ≠ z + 2 → V'.1 a = V.1 a := by
  obtain ⟨n, hn⟩ : ∃ n, N = n + 5 := ⟨N - 5, by omega⟩
  have e : q_X7_add N Y V (z + 1) x = q_X7_add_3 N Y (n + 5) V (z + 1) x (nI 24) := by
    unfold q_X7_add
    rw [← hn]
    rfl
  rw [e, q_X7_add_3]
  simp (disch := omega) only [hM, pk_ckT, pk_bs, pk_letE, pk_bd2E, pk_bd3E, if_true, if_false, eq_self, not_true_eq_false, not_false_eq_true, true_and, and_true, Nat.not_lt_zero, Nat.zero_le, Nat.reduceEqDiff, Nat.reduceLT, Nat.reduceLeDiff, pk_ck, pk_lit, nI_add, pk_mul, nI_clamp, nI_leI, nI_ltI, nI_eq, pk_div, pk_remE, pk_inE, pk_sub, h1, pk_byc, pk_m8, q_X7_add_40, pk_rI_same, pk_rI_ne, pk_rI_wL, pk_rL_wI, pk_rL_same, pk_rL_ne]
  rw [if_neg (by omega), q_X7_add_3]
  simp (disch := omega) only [hM, pk_ckT, pk_bs, pk_letE, pk_bd2E, pk_bd3E, if_true, if_false, eq_self, not_true_eq_false, not_false_eq_true, true_and, and_true, Nat.not_lt_zero, Nat.zero_le, Nat.reduceEqDiff, Nat.reduceLT, Nat.reduceLeDiff, pk_ck, pk_lit, nI_add, pk_mul, nI_clamp, nI_leI, nI_ltI, nI_eq, pk_div, pk_remE, pk_inE, pk_sub, h1, pk_byc, pk_m8, q_X7_add_40, pk_rI_same, pk_rI_ne, pk_rI_wL, pk_rL_wI, pk_rL_same, pk_rL_ne]
  rw [if_neg (by omega), q_X7_add_3]
  simp (disch := omega) only [hM, pk_ckT, pk_bs, pk_letE, pk_bd2E, pk_bd3E, if_true, if_false, eq_self, not_true_eq_false, not_false_eq_true, true_and, and_true, Nat.not_lt_zero, Nat.zero_le, Nat.reduceEqDiff, Nat.reduceLT, Nat.reduceLeDiff, pk_ck, pk_lit, nI_add, pk_mul, nI_clamp, nI_leI, nI_ltI, nI_eq, pk_div, pk_remE, pk_inE, pk_sub, h1, pk_byc, pk_m8, q_X7_add_40, pk_rI_same, pk_rI_ne, pk_rI_wL, pk_rL_wI, pk_rL_same, pk_rL_ne]
  rw [if_neg (by omega), q_X7_add_3]
  simp (disch := omega) only [hM, pk_ckT, pk_bs, pk_letE, pk_bd2E, pk_bd3E, if_true, if_false, eq_self, not_true_eq_false, not_false_eq_true, true_and, and_true, Nat.not_lt_zero, Nat.zero_le, Nat.reduceEqDiff, Nat.reduceLT, Nat.reduceLeDiff, pk_ck, pk_lit, nI_add, pk_mul, nI_clamp, nI_leI, nI_ltI, nI_eq, pk_div, pk_remE, pk_inE, pk_sub, h1, pk_byc, q_X7_add_40, pk_rI_same, pk_rI_ne, pk_rI_wL, pk_rL_wI, pk_rL_same, pk_rL_ne]
  rw [if_neg (by omega), q_X7_add_3, if_pos (by decide)]
  refine ⟨_, rfl, ?_, fun j hj => ?_, rfl, fun a q1 q2 => ?_⟩
  · simp (disch := omega) only [pk_rI_same, pk_rI_ne, pk_rI_wL, pk_rL_wI, pk_rL_same, pk_rL_ne, pk_ckT, pk_bs, pk_letE, pk_bd2E, pk_bd3E, if_true, if_false, eq_self, not_true_eq_false, not_false_eq_true, true_and, and_true, Nat.not_lt_zero, Nat.zero_le, Nat.reduceEqDiff, Nat.reduceLT, Nat.reduceLeDiff, pk_ck]
  · simp (disch := omega) only [pk_rI_same, pk_rI_ne, pk_rI_wL, pk_rL_wI, pk_rL_same, pk_rL_ne]
    unfold sp_add
    by_cases c3 : j = tl + 3
    · rw [if_pos (by omega), if_neg (by omega), if_neg (by omega), if_neg (by omega), if_pos c3]
    · rw [if_neg (by omega)]
      by_cases c2 : j = tl + 2
      · rw [if_pos (by omega), if_neg (by omega), if_neg (by omega), if_pos c2]
      · rw [if_neg (by omega)]
        by_cases c1 : j = tl + 1
        · rw [if_pos c1, if_neg (by omega), if_pos c1]
        · rw [if_neg c1]
          by_cases c0 : j = tl
          · rw [if_pos c0, if_pos c0]
          · rw [if_neg c0, if_neg c0, if_neg c1, if_neg c2, if_neg c3]
            exact h2 j (by omega)
  · rw [pk_rowI q1, pk_rowI q2, pk_rowI q1, pk_rowI q2, pk_rowI q1, pk_rowI q2, pk_rowI q1, pk_rowI q2]
theorem pr_lays (hN : 20000 ≤ N) (hS : pk_Rf Y r) (h1 : bk_rI V r 20 = nI tl) (h2 : ∀ j, j < tl → bk_rI V (r + 6) j = nI (T j)) (hl : tl + 4 ≤ 700) : ∃ V', q_X12_lays N Y V r x = some V' ∧ bk_rI V' r 20 = nI (tl + 4) ∧ (∀ j, j < tl + 4 → bk_rI V' (r + 6) j = nI (sp_add T tl x j)) ∧ V'.2 = V.2 ∧ (∀ a, a ≠ r → a ≠ r + 6 → V'.1 a = V.1 a) ∧ ∀ k, k ≠ 20 → V'.1 r k = V.1 r k := by
  obtain ⟨n, hn⟩ : ∃ n, N = n + 5 := ⟨N - 5, by omega⟩
  have e : q_X12_lays N Y V r x = q_X12_lays_3 N Y (n + 5) V r x (nI 24) := by
    unfold q_X12_lays
    rw [← hn]
    rfl
  rw [e, q_X12_lays_3]
  simp (disch := omega) only [hS, pk_ckT, pk_bs, pk_letE, pk_bd2E, pk_bd3E, if_true, if_false, eq_self, not_true_eq_false, not_false_eq_true, true_and, and_true, Nat.not_lt_zero, Nat.zero_le, Nat.reduceEqDiff, Nat.reduceLT, Nat.reduceLeDiff, pk_ck, pk_lit, nI_add, pk_mul, nI_clamp, nI_leI, nI_ltI, nI_eq, pk_div, pk_remE, pk_inE, pk_sub, h1, pk_byr, pk_m8, pk_rI_same, pk_rI_ne, pk_rI_wL, pk_rL_wI, pk_rL_same, pk_rL_ne]
  rw [q_X12_lays_3]
  simp (disch := omega) only [hS, pk_ckT, pk_bs, pk_letE, pk_bd2E, pk_bd3E, if_true, if_false, eq_self, not_true_eq_false, not_false_eq_true, true_and, and_true, Nat.not_lt_zero, Nat.zero_le, Nat.reduceEqDiff, Nat.reduceLT, Nat.reduceLeDiff, pk_ck, pk_lit, nI_add, pk_mul, nI_clamp, nI_leI, nI_ltI, nI_eq, pk_div, pk_remE, pk_inE, pk_sub, h1, pk_byr, pk_m8, pk_rI_same, pk_rI_ne, pk_rI_wL, pk_rL_wI, pk_rL_same, pk_rL_ne]
  rw [q_X12_lays_3]
  simp (disch := omega) only [hS, pk_ckT, pk_bs, pk_letE, pk_bd2E, pk_bd3E, if_true, if_false, eq_self, not_true_eq_false, not_false_eq_true, true_and, and_true, Nat.not_lt_zero, Nat.zero_le, Nat.reduceEqDiff, Nat.reduceLT, Nat.reduceLeDiff, pk_ck, pk_lit, nI_add, pk_mul, nI_clamp, nI_leI, nI_ltI, nI_eq, pk_div, pk_remE, pk_inE, pk_sub, h1, pk_byr, pk_m8, pk_rI_same, pk_rI_ne, pk_rI_wL, pk_rL_wI, pk_rL_same, pk_rL_ne]
  rw [q_X12_lays_3]
  simp (disch := omega) only [hS, pk_ckT, pk_bs, pk_letE, pk_bd2E, pk_bd3E, if_true, if_false, eq_self, not_true_eq_false, not_false_eq_true, true_and, and_true, Nat.not_lt_zero, Nat.zero_le, Nat.reduceEqDiff, Nat.reduceLT, Nat.reduceLeDiff, pk_ck, pk_lit, nI_add, pk_mul, nI_clamp, nI_leI, nI_ltI, nI_eq, pk_div, pk_remE, pk_inE, pk_sub, h1, pk_byr, pk_rI_same, pk_rI_ne, pk_rI_wL, pk_rL_wI, pk_rL_same, pk_rL_ne]
  rw [q_X12_lays_3, if_pos (by decide)]
  refine ⟨_, rfl, ?_, fun j hj => ?_, rfl, fun a q1 q2 => ?_, fun k q => ?_⟩
  · simp (disch := omega) only [pk_rI_same, pk_rI_ne, pk_rI_wL, pk_rL_wI, pk_rL_same, pk_rL_ne, pk_ckT, pk_bs, pk_letE, pk_bd2E, pk_bd3E, if_true, if_false, eq_self, not_true_eq_false, not_false_eq_true, true_and, and_true, Nat.not_lt_zero, Nat.zero_le, Nat.reduceEqDiff, Nat.reduceLT, Nat.reduceLeDiff, pk_ck]
  · simp (disch := omega) only [pk_rI_same, pk_rI_ne, pk_rI_wL, pk_rL_wI, pk_rL_same, pk_rL_ne]
    unfold sp_add
    by_cases c3 : j = tl + 3
    · rw [if_pos (by omega), if_neg (by omega), if_neg (by omega), if_neg (by omega), if_pos c3]
    · rw [if_neg (by omega)]
      by_cases c2 : j = tl + 2
      · rw [if_pos (by omega), if_neg (by omega), if_neg (by omega), if_pos c2]
      · rw [if_neg (by omega)]
        by_cases c1 : j = tl + 1
        · rw [if_pos c1, if_neg (by omega), if_pos c1]
        · rw [if_neg c1]
          by_cases c0 : j = tl
          · rw [if_pos c0, if_pos c0]
          · rw [if_neg c0, if_neg c0, if_neg c1, if_neg c2, if_neg c3]
            exact h2 j (by omega)
  · rw [pk_rowI q1, pk_rowI q2, pk_rowI q1, pk_rowI q2, pk_rowI q1, pk_rowI q2, pk_rowI q1, pk_rowI q2]
  · rw [pk_slot q, pk_rowI (by omega), pk_slot q, pk_rowI (by omega), pk_slot q, pk_rowI (by omega), pk_slot q, pk_rowI (by omega)]
def sp_feed (T : Nat → Nat) (tl : Nat) (x1 x2 x3 x4 x5 : Int32) : Nat → Nat := sp_add (sp_add (sp_add (sp_add (sp_add T tl x1) (tl + 4) x2) (tl + 4 + 4) x3) (tl + 4 + 4 + 4) x4) (tl + 4 + 4 + 4 + 4) x5
theorem st_0 (hN : 20000 ≤ N) (hI : pk_IA z Y V) : bk_st0 N z (z + 58) (z + 86) Y V x1 x2 x3 x4 x5 (pk_IA z) := by
  obtain ⟨t, u, s, D, P, T, tl, st, hs, img, pl, fp, r0, r1, hJ, hR, hB, hC, hRA, hBA⟩ := hI.e
  obtain ⟨hM, hS, hz, hT, hs5, -⟩ := hJ.o
  have hn := hJ.ne
  obtain ⟨t1, t2⟩ := hJ.2.2.2.2.1
  have tb := hB.2.1.1
  by_cases c : tl + 20 ≤ 700
  · obtain ⟨V1, a1, a2, a3, a4, a5⟩ := pc_add (N := N) (x := x1) hN hM t1 t2 (by omega)
    obtain ⟨V2, b1, b2, b3, b4, b5⟩ := pc_add (N := N) (x := x2) hN hM a2 a3 (by omega)
    obtain ⟨V3, c1, c2, c3, c4, c5⟩ := pc_add (N := N) (x := x3) hN hM b2 b3 (by omega)
    obtain ⟨V4, d1, d2, d3, d4, d5⟩ := pc_add (N := N) (x := x4) hN hM c2 c3 (by omega)
    obtain ⟨V5, e1, e2, e3, e4, e5⟩ := pc_add (N := N) (x := x5) hN hM d2 d3 (by omega)
    have row : ∀ a, a ≠ z + 1 → a ≠ z + 2 → V5.1 a = V.1 a := fun a q1 q2 => by rw [e5 a q1 q2, d5 a q1 q2, c5 a q1 q2, b5 a q1 q2, a5 a q1 q2]
    have rowL : V5.2 = V.2 := by rw [e4, d4, c4, b4, a4]
    have hC1 : pk_CA z Y V5 (D, P, sp_feed T tl x1 x2 x3 x4 x5, tl + 20, st, hs, img, pl, fp, r0, r1) := by
      refine ⟨t, u, s, ?_⟩
      obtain ⟨g1, g2, g3, g4, -, g6, g7, g8, g9, ⟨g10, g10a, g10b⟩, g11⟩ := hJ
      have kp : pk_kp z Y V Y V5 := ⟨Nat.le_refl _, fun a ha => ⟨rfl, rfl, row a (by have := ha.1; omega) (by have := ha.1; omega), by rw [rowL]⟩⟩
      have m := fun k => congrFun (row z (by omega) (by omega)) k
      refine ⟨g1, g2, g3, g4.of (fun a q1 q2 q3 => row a (by omega) (by omega)), ⟨e2, e3⟩, g6.kp kp, (m 8).trans g7, ?_, ?_, ⟨(m 12).trans g10, (m 13).trans g10a, (m 14).trans g10b⟩, g11.of rfl (fun a q1 q2 => ⟨row a (by omega) (by omega), by rw [rowL]⟩)⟩
      · cases img with
        | none => exact g8
        | some g =>
          obtain ⟨s', i1, i2, i3⟩ := g8
          exact ⟨s', i1, i2.kp kp, (m 10).trans i3⟩
      · cases pl with
        | none => exact (m 11).trans g9
        | some f => exact ⟨(m 11).trans g9.1, fun i hi => (congrFun (row (z + 8) (by omega) (by omega)) i).trans (g9.2 i hi)⟩
    have ho : pk_offR z V V5 := fun a q1 q2 => ⟨row a (by omega) (by omega), by rw [rowL]⟩
    have hR1 : pk_JR (z + 58) V5 D P T tl st hs img pl fp r0 r1 := hRA.off ho
    have hRf := hC1.rf.1
    have h3 := hR1.w0 (x := nI 0)
    obtain ⟨W0, hW0⟩ : ∃ W0, W0 = bk_wI V5 (z + 58) 0 (nI 0) := ⟨_, rfl⟩
    rw [← hW0] at h3
    obtain ⟨u1, u2⟩ := h3.2.1
    obtain ⟨W1, f1, f2, f3, f4, f5, f6⟩ := pr_lays (N := N) (x := x1) hN hRf u1 u2 (by omega)
    obtain ⟨W2, i1, i2, i3, i4, i5, i6⟩ := pr_lays (N := N) (x := x2) hN hRf f2 f3 (by omega)
    obtain ⟨W3, j1, j2, j3, j4, j5, j6⟩ := pr_lays (N := N) (x := x3) hN hRf i2 i3 (by omega)
    obtain ⟨W4, k1, k2, k3, k4, k5, k6⟩ := pr_lays (N := N) (x := x4) hN hRf j2 j3 (by omega)
    obtain ⟨W5, l1, l2, l3, l4, l5, l6⟩ := pr_lays (N := N) (x := x5) hN hRf k2 k3 (by omega)
    have rowR : ∀ a, a ≠ z + 58 → a ≠ z + 58 + 6 → W5.1 a = W0.1 a := fun a q1 q2 => by rw [l5 a q1 q2, k5 a q1 q2, j5 a q1 q2, i5 a q1 q2, f5 a q1 q2]
    have slR : ∀ k, k ≠ 20 → W5.1 (z + 58) k = W0.1 (z + 58) k := fun k q => by rw [l6 k q, k6 k q, j6 k q, i6 k q, f6 k q]
    have rowRL : W5.2 = W0.2 := by rw [l4, k4, j4, i4, f4]
    refine ⟨nI (tl + 20), V5, ?_, pk_stN hC1 ⟨hB.1, ⟨by omega, sp_add_lt (sp_add_lt (sp_add_lt (sp_add_lt (sp_add_lt hB.2.1.2))))⟩, hB.2.2⟩ ⟨W5, ?_, ⟨?_, fun a q => ⟨?_, ?_⟩⟩, ?_⟩⟩
    · simp (disch := omega) only [q_X11_feed, hM, pk_ckT, pk_bs, pk_letE, pk_bd2E, pk_bd3E, if_true, if_false, eq_self, not_true_eq_false, not_false_eq_true, true_and, and_true, Nat.not_lt_zero, Nat.zero_le, Nat.reduceEqDiff, Nat.reduceLT, Nat.reduceLeDiff, pk_ck, q_X7_hasRoom, t1, pk_lit, nI_add, pk_mul, nI_clamp, nI_leI, nI_ltI, nI_eq, pk_div, pk_remE, pk_inE, pk_sub, a1, b1, c1, d1, e1, e2]
      rw [if_neg (by omega), pk_bs, if_neg (by decide)]
    · simp (disch := omega) only [q_X12_feed, hRf, pk_ckT, pk_bs, pk_letE, pk_bd2E, pk_bd3E, if_true, if_false, eq_self, not_true_eq_false, not_false_eq_true, true_and, and_true, Nat.not_lt_zero, Nat.zero_le, Nat.reduceEqDiff, Nat.reduceLT, Nat.reduceLeDiff, pk_ck, pk_lit, ← hW0, u1, nI_add, nI_leI, f1, i1, j1, k1, l1, l2]
      rw [if_pos (by omega)]
    · show W5.1 (z + 58) 0 = _
      rw [slR 0 (by omega), hW0]
      exact pk_w0
    · rw [rowR a (by omega) (by omega), hW0, pk_rowI (by omega)]
    · rw [rowRL, hW0]; rfl
    · obtain ⟨h1, -, ⟨h3, h3a, h3b, h3c⟩, h4, h5, h6, h7, h8, h8a, h8b⟩ := h3
      have g1 : ∀ a j, a ≠ z + 58 → a ≠ z + 58 + 6 → bk_rI W5 a j = bk_rI W0 a j := fun a j q1 q2 => congrFun (rowR a q1 q2) j
      have g2 : ∀ k, k ≠ 20 → bk_rI W5 (z + 58) k = bk_rI W0 (z + 58) k := slR
      have g3 : ∀ a j, bk_rL W5 a j = bk_rL W0 a j := fun a j => by unfold bk_rL; rw [rowRL]
      refine ⟨h1.of (fun a x y => rowR a (by omega) (by omega)) (fun k x y => slR k (by omega)), ⟨l2, l3⟩, ⟨(g2 _ (by omega)).trans h3, (g2 _ (by omega)).trans h3a, (g2 _ (by omega)).trans h3b, fun p hp => (g3 _ _).trans (h3c p hp)⟩, (g2 _ (by omega)).trans h4, h5.of (rowR _ (by omega) (by omega)) (by rw [rowRL]), ?_, ?_, (g2 _ (by omega)).trans h8, (g1 _ _ (by omega) (by omega)).trans h8a, (g1 _ _ (by omega) (by omega)).trans h8b⟩
      · cases img with
        | none => exact (g2 _ (by omega)).trans h6
        | some g =>
          obtain ⟨i1, i2, i3, i4, i5, i6, i7⟩ := h6
          exact ⟨(g2 _ (by omega)).trans i1, (g2 _ (by omega)).trans i2, (g2 _ (by omega)).trans i3, (g2 _ (by omega)).trans i4, (g2 _ (by omega)).trans i5, fun p hp => (g3 _ _).trans (i6 p hp), i7.of (rowR _ (by omega) (by omega)) (by rw [rowRL])⟩
      · cases pl with
        | none => exact (g2 _ (by omega)).trans h7
        | some f' => exact ⟨(g2 _ (by omega)).trans h7.1, fun i hi => (g1 _ _ (by omega) (by omega)).trans (h7.2 i hi)⟩
  · have hRf := hC.rf.1
    refine ⟨-nI 1, V, ?_, pk_stN hC hBA ⟨bk_wI V (z + 58) 0 (nI 0), ?_, pk_out0.w0, hR.w0⟩⟩
    · simp (disch := omega) only [q_X11_feed, hM, pk_ckT, pk_bs, pk_letE, pk_bd2E, pk_bd3E, if_true, if_false, eq_self, not_true_eq_false, not_false_eq_true, true_and, and_true, Nat.not_lt_zero, Nat.zero_le, Nat.reduceEqDiff, Nat.reduceLT, Nat.reduceLeDiff, pk_ck, q_X7_hasRoom, t1, pk_lit, nI_add, pk_mul, nI_clamp, nI_leI, nI_ltI, nI_eq, pk_div, pk_remE, pk_inE, pk_sub]
      rw [if_pos (by omega), pk_bs, if_pos rfl]
    · have u1 := (hR.w0 (x := nI 0)).2.1.1
      simp (disch := omega) only [q_X12_feed, hRf, pk_ckT, pk_bs, pk_letE, pk_bd2E, pk_bd3E, if_true, if_false, eq_self, not_true_eq_false, not_false_eq_true, true_and, and_true, Nat.not_lt_zero, Nat.zero_le, Nat.reduceEqDiff, Nat.reduceLT, Nat.reduceLeDiff, pk_ck, pk_lit, u1, nI_add, nI_leI]
      rw [if_neg (by omega)]
end
