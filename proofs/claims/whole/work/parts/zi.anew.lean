/-! all anew: what one believes by the causes alone -/
def sp_F0 (D : Nat → Nat → Nat) (p c : Nat) : Nat := if sp_mk c (p / 4) (p % 4) then sp_sh D sp_G c else 0
def sp_w0 (D : Nat → Nat → Nat) (p : Nat) : Nat := if p < 4 * D 0 0 then sp_sum (sp_F0 D p) 4 else 0
section
variable {N z t u s r a b c d k n j h m l p q q0 md wa s' i f gg v S L g lo hi w e : Nat} {Y Y2 Y' : bk_Lay} {V V' V1 V2 V8 : bk_Val} {x y x1 x2 x3 x4 x5 ee : Int32} {T T' R G In : Nat → Nat} {D D' : Nat → Nat → Nat} {P P' : Nat → List Nat} {B B' : Nat → Bool} {K : List Nat} {k11 : bk_Lay → bk_Val → Nat → Nat → Int32 → Option (Nat × bk_Lay × bk_Val)} {k29 : bk_Val → Nat → Int32 → Option bk_Val}
theorem sp_Gle : sp_G ≤ 1000000000 := by rw [sp_Ge]; omega
theorem sp_F0_le (hB : pk_DB D P) (hc : c < 4) : sp_F0 D p c ≤ 99000000000 := by
  have := (sp_sh_le hB hc sp_Gle).2
  unfold sp_F0
  split <;> omega
theorem sp_w0_le (hB : pk_DB D P) : sp_w0 D p ≤ 1000000000000000 := by
  unfold sp_w0
  split
  · have h0 := sp_F0_le (p := p) hB (show 0 < 4 by omega)
    have h1 := sp_F0_le (p := p) hB (show 1 < 4 by omega)
    have h2 := sp_F0_le (p := p) hB (show 2 < 4 by omega)
    have h3 := sp_F0_le (p := p) hB (show 3 < 4 by omega)
    show 0 + sp_F0 D p 0 + sp_F0 D p 1 + sp_F0 D p 2 + sp_F0 D p 3 ≤ _
    omega
  · omega
/-- one place, the class -/
theorem pc_oc19 (hS : pk_Sd Y u) (hB : pk_DB D P) (hp : p < 4 * D 0 0) (hb : bk_sh Y b = (3, 4 * D 0 0)) : ∀ m c f V, c + m = 4 → m < f → pk_CT V u D P → bk_rL V b p = lN (sp_sum (sp_F0 D p) c) → ∃ V', q_X0_ofCauses_19 N k11 f Y V u b (nI p) (nI c) = k11 Y V' u b (nI (p + 1)) ∧ V'.1 = V.1 ∧ (∀ a, a ≠ b → V'.2 a = V.2 a) ∧ (∀ j, j ≠ p → bk_rL V' b j = bk_rL V b j) ∧ bk_rL V' b p = lN (sp_sum (sp_F0 D p) 4) := by
  have d0 := hB.1
  intro m
  induction m with
  | zero =>
    intro c f V hc hf hT hV
    obtain rfl : c = 4 := by omega
    refine ⟨V, ?_, rfl, fun _ _ => rfl, fun _ _ => rfl, hV⟩
    rw [show f = f - 1 + 1 by omega, q_X0_ofCauses_19, if_pos (show (4 : Int32) ≤ nI 4 by decide), show nI p + (1 : Int32) = nI (p + 1) from nI_add p 1]
  | succ m ih =>
    intro c f V hc hf hT hV
    obtain ⟨f', rfl⟩ : ∃ f', f = f' + 1 := ⟨f - 1, by omega⟩
    have pm := pc_may (N := N) (Y := Y) (V := V) (c := c) (i := p / 4) (e := p % 4) (by omega) (by omega) (by omega)
    have ps := pc_share (N := N) (c := c) (gg := sp_G) hS hT hB (by omega) sp_Gle
    have e1 : nI p / 4 = nI (p / 4) := pk_div (a := p) (d := 4) (by omega) (by omega) (by omega)
    have e2 : bk_rem (nI p) 4 = nI (p % 4) := pk_remE (a := p) (d := 4) (by omega) (by omega) (by omega)
    have e0 : q_X0_ofCauses_19 N k11 (f' + 1) Y V u b (nI p) (nI c) = if ¬ sp_mk c (p / 4) (p % 4) then q_X0_ofCauses_19 N k11 f' Y V u b (nI p) (nI (c + 1)) else q_X0_ofCauses_19 N k11 f' Y (bk_wL V b p (lN (sp_sum (sp_F0 D p) c) + lN (sp_sh D sp_G c))) u b (nI p) (nI (c + 1)) := by
      rw [q_X0_ofCauses_19, if_neg (show ¬ (4 : Int32) ≤ nI c from nI_ge (b := 4) (by omega) (by omega)), e1, e2, pm, pk_bs, pk_G]
      simp (disch := omega) only [hS, hb, pk_ckT, pk_bs, pk_letE, pk_bd2E, pk_bd3E, if_true, if_false, eq_self, not_true_eq_false, not_false_eq_true, true_and, and_true, Nat.not_lt_zero, Nat.zero_le, Nat.reduceEqDiff, Nat.reduceLT, Nat.reduceLeDiff, pk_ck, pk_lit, pk_B0, nI_clamp, pk_inE, ps, hV, q_X0_ofCauses_51, nI_add]
    rw [e0]
    have es : sp_sum (sp_F0 D p) (c + 1) = sp_sum (sp_F0 D p) c + sp_F0 D p c := rfl
    by_cases q : sp_mk c (p / 4) (p % 4)
    · rw [if_neg (fun g => g q)]
      have hT2 : pk_CT (bk_wL V b p (lN (sp_sum (sp_F0 D p) c) + lN (sp_sh D sp_G c))) u D P := hT
      obtain ⟨V', i1, i2, i3, i4, i5⟩ := ih (c + 1) f' _ (by omega) (by omega) hT2 (by rw [pk_rL_same, if_pos rfl, lN_add, es]; unfold sp_F0; rw [if_pos q])
      refine ⟨V', i1, i2, fun a ha => (i3 a ha).trans (pk_rowL ha), fun j hj => (i4 j hj).trans (by rw [pk_rL_same, if_neg hj]), i5⟩
    · rw [if_pos q]
      exact ih (c + 1) f' V (by omega) (by omega) hT (by rw [hV, es]; unfold sp_F0; rw [if_neg q, Nat.add_zero])
theorem pc_oc11 (hN : 1000 ≤ N) (hS : pk_Sd Y u) (hB : pk_DB D P) (hb : bk_sh Y b = (3, 4 * D 0 0)) : ∀ m p f V, p + m = 4 * D 0 0 → m < f → pk_CT V u D P → (∀ j, j < p → bk_rL V b j = lN (sp_w0 D j)) → (∀ j, p ≤ j → bk_rL V b j = lN 0) → ∃ V', q_X0_ofCauses_11 N f Y V u b (nI p) = some (b, Y, V') ∧ V'.1 = V.1 ∧ (∀ a, a ≠ b → V'.2 a = V.2 a) ∧ ∀ j, j < 4 * D 0 0 → bk_rL V' b j = lN (sp_w0 D j) := by
  have d0 := hB.1
  intro m
  induction m with
  | zero =>
    intro p f V hp hf hT h1 h2
    refine ⟨V, ?_, rfl, fun _ _ => rfl, fun j hj => h1 j (by omega)⟩
    rw [show f = f - 1 + 1 by omega, q_X0_ofCauses_11]
    simp (disch := omega) only [hb, pk_ckT, pk_bs, pk_letE, pk_bd2E, pk_bd3E, if_true, if_false, eq_self, not_true_eq_false, not_false_eq_true, true_and, and_true, Nat.not_lt_zero, Nat.zero_le, Nat.reduceEqDiff, Nat.reduceLT, Nat.reduceLeDiff, pk_ck, nI_leI]
    rw [if_pos (by omega)]
  | succ m ih =>
    intro p f V hp hf hT h1 h2
    obtain ⟨f', rfl⟩ : ∃ f', f = f' + 1 := ⟨f - 1, by omega⟩
    obtain ⟨V1, a1, a2, a3, a4, a5⟩ := pc_oc19 (N := N) (k11 := q_X0_ofCauses_11 N f') (p := p) hS hB (by omega) hb 4 0 N V (by omega) (by omega) hT (h2 p (Nat.le_refl _))
    have hT1 : pk_CT V1 u D P := hT.of (fun a _ _ _ => by rw [a2])
    obtain ⟨V2, i1, i2, i3, i4⟩ := ih (p + 1) f' V1 (by omega) (by omega) hT1 (fun j hj => by
      by_cases g : j = p
      · rw [g, a5]; unfold sp_w0; rw [if_pos (by omega)]
      · rw [a4 j g]; exact h1 j (by omega)) (fun j hj => by rw [a4 j (by omega)]; exact h2 j (by omega))
    refine ⟨V2, ?_, i2.trans a2, fun a ha => (i3 a ha).trans (a3 a ha), i4⟩
    rw [q_X0_ofCauses_11]
    simp (disch := omega) only [hb, pk_ckT, pk_bs, pk_letE, pk_bd2E, pk_bd3E, if_true, if_false, eq_self, not_true_eq_false, not_false_eq_true, true_and, and_true, Nat.not_lt_zero, Nat.zero_le, Nat.reduceEqDiff, Nat.reduceLT, Nat.reduceLeDiff, pk_ck, nI_leI]
    rw [if_neg (by omega), show q_X0_ofCauses_19 N (q_X0_ofCauses_11 N f') N Y V u b (nI p) 0 = _ from a1, i1]
theorem pk_Fix.sd (hF : pk_Fix z Y) (hu : u = z + 10 ∨ u = z + 32) : pk_Sd Y u := by
  rcases hu with g | g
  · rw [g]; exact hF.sd0
  · rw [g]; exact hF.sd1
theorem pc_ofC (hN : 1000 ≤ N) (hF : pk_Fix z Y) (hu : u = z + 10 ∨ u = z + 32) (hT : pk_CT V u D P) (hB : pk_DB D P) : ∃ V', q_X0_ofCauses N Y V u = some (bk_sz Y, bk_nw Y (3, 4 * D 0 0), V') ∧ V'.1 = (bk_nz Y V).1 ∧ (∀ a, a ≠ bk_sz Y → V'.2 a = V.2 a) ∧ ∀ j, j < 4 * D 0 0 → bk_rL V' (bk_sz Y) j = lN (sp_w0 D j) := by
  have d0 := hB.1
  have hS := hF.sd hu
  have hF2 : pk_Fix z (bk_nw Y (3, 4 * D 0 0)) := hF.nw
  have hS2 := hF2.sd hu
  have hsz := hF.2.2
  have hT2 : pk_CT (bk_nz Y V) u D P := hT.of (fun a q1 q2 _ => (pk_rowZ (by omega)).1)
  obtain ⟨V', a1, a2, a3, a4⟩ := pc_oc11 (N := N) (b := bk_sz Y) hN hS2 hB (by rw [pk_sh_nw, if_pos rfl]) (4 * D 0 0) 0 N (bk_nz Y V) (by omega) (by omega) hT2 (fun j hj => by omega) (fun j _ => by rw [pk_rL_nz, if_pos rfl]; rfl)
  refine ⟨V', ?_, a2, fun a ha => (a3 a ha).trans (pk_rowZ ha).2, a4⟩
  unfold q_X0_ofCauses
  have ei := pc_inches (N := N) hS hT
  have e4 : (4 : Int32) * nI (D 0 0) = nI (4 * D 0 0) := pk_mul 4 _
  rw [pk_ck hS.1, ei, pk_bs, e4, nI_clamp (by omega), pk_ck ⟨show ¬ nI (4 * D 0 0) < nI 0 by rw [nI_ltI (by omega) (by omega)]; omega, by omega⟩, pk_letE, pk_letE, pk_letE]
  exact a1
/-- a new state, the class -/
theorem pc_ofNew (hN : 1000 ≤ N) (hF : pk_Fix z Y) (hu : u = z + 10 ∨ u = z + 32) (hT : pk_CT V u D P) (hB : pk_DB D P) : ∃ Y' V', q_X6_ofNew N Y V u = some (bk_sz Y, Y', V') ∧ pk_Fix z Y' ∧ pk_CS z Y' V' (D 0 0) (bk_sz Y) (1000 * D 0 4, 0, 0, sp_w0 D) ∧ (∀ a, a < bk_sz Y → V'.1 a = V.1 a ∧ V'.2 a = V.2 a ∧ Y'.2.1 a = Y.2.1 a) := by
  have d0 := hB.1
  have d4 := hB.2.2.2.2.1
  have hsz := hF.2.2
  have hF2 : pk_Fix z (bk_nw Y (1, 5)) := hF.nw
  have hT2 : pk_CT (bk_nz Y V) u D P := hT.of (fun a q1 q2 _ => (pk_rowZ (by omega)).1)
  have z2 : bk_sz (bk_nw Y (1, 5)) = bk_sz Y + 1 := pk_sz_nw
  obtain ⟨V1, a1, a2, a3, a4⟩ := pc_ofC (N := N) hN hF2 hu hT2 hB
  rw [z2] at a1 a3 a4
  have hF3 : pk_Fix z (bk_nw (bk_nw Y (1, 5)) (3, 4 * D 0 0)) := hF2.nw
  have hF4 : pk_Fix z (bk_wR (bk_wR (bk_nw (bk_nw Y (1, 5)) (3, 4 * D 0 0)) (bk_sz Y) 0 none) (bk_sz Y) 4 (some (bk_sz Y + 1))) := (hF3.wR (by omega)).wR (by omega)
  have row1 : ∀ a, a < bk_sz Y → V1.1 a = V.1 a := fun a ha => by rw [a2, (pk_rowZ (by rw [z2]; omega)).1, (pk_rowZ (by omega)).1]
  refine ⟨bk_wR (bk_wR (bk_nw (bk_nw Y (1, 5)) (3, 4 * D 0 0)) (bk_sz Y) 0 none) (bk_sz Y) 4 (some (bk_sz Y + 1)), bk_wI (bk_wI (bk_wI V1 (bk_sz Y) 1 (nI (1000 * D 0 4))) (bk_sz Y) 2 (nI 0)) (bk_sz Y) 3 (nI 0), ?_, hF4, ⟨⟨by omega, ?_⟩, ?_, ?_, ?_, ?_, bk_sz Y + 1, ?_, ⟨by omega, ?_⟩, ?_, fun p hp => ?_⟩, fun a ha => ⟨?_, ?_, ?_⟩⟩
  · have e1 : q_X5_fullPressure N (bk_nw Y (1, 5)) (bk_nz Y V) u = some (nI (1000 * D 0 4)) := by
      have hS2 := hF2.sd hu
      have e04 : bk_rI (bk_nz Y V) (u + 1) 4 = nI (D 0 4) := hT2.1 4 (by omega)
      unfold q_X5_fullPressure
      simp (disch := omega) only [hS2, pk_ckT, pk_bs, pk_letE, pk_bd2E, pk_bd3E, if_true, if_false, eq_self, not_true_eq_false, not_false_eq_true, true_and, and_true, Nat.not_lt_zero, Nat.zero_le, Nat.reduceEqDiff, Nat.reduceLT, Nat.reduceLeDiff, pk_ck, pk_lit, nI_clamp, pk_inE, e04, pk_mul]
    unfold q_X6_ofNew
    rw [pk_letE, pk_letE, pk_letE, pk_ck (hF2.sd hu).1, e1, pk_bs, a1, pk_bd3E]
    unfold q_X6_init_n
    rw [pk_ck (by rw [pk_sh_nw, if_neg (by rw [z2]; omega), pk_sh_nw, if_pos rfl])]
    rfl
  · show bk_sz Y < bk_sz (bk_nw (bk_nw Y (1, 5)) (3, 4 * D 0 0))
    rw [pk_sz_nw, z2]; omega
  · rw [pk_sh_wR, pk_sh_wR, pk_sh_nw, if_neg (by rw [z2]; omega), pk_sh_nw, if_pos rfl]
  · rw [pk_rI_same, if_neg (by omega), pk_rI_same, if_neg (by omega), pk_rI_same, if_pos rfl]
  · rw [pk_rI_same, if_neg (by omega), pk_rI_same, if_pos rfl]
  · rw [pk_rI_same, if_pos rfl]
  · rw [pk_rR_wR, if_pos ⟨rfl, rfl⟩]
  · show bk_sz Y + 1 < bk_sz (bk_nw (bk_nw Y (1, 5)) (3, 4 * D 0 0))
    rw [pk_sz_nw, z2]; omega
  · rw [pk_sh_wR, pk_sh_wR, pk_sh_nw, if_pos (by rw [z2])]
  · exact a4 p hp
  · rw [pk_rowI (by omega), pk_rowI (by omega), pk_rowI (by omega)]
    exact row1 a ha
  · show V1.2 a = _
    rw [a3 a (by omega), (pk_rowZ (by omega)).2]
  · rw [pk_rowR (by omega), pk_rowR (by omega), pk_rowN (by rw [z2]; omega), pk_rowN (by omega)]
/-- one place, the reference -/
theorem pr_an45 (hN : 1000 ≤ N) (hS : pk_Rf Y r) (hB : pk_DB D P) (hp : p < 4 * D 0 0) : ∀ m c f V, c + m = 4 → m < f → bk_rI V r 1 = nI (D 0 0) → (∀ k, k < 4 → bk_rI V (r + 2) k = nI (D 1 k)) → bk_rL V (r + 15) p = lN (sp_sum (sp_F0 D p) c) → ∃ V', q_X12_anew_45 N Y k29 f V r (nI p) (nI c) = k29 V' r (nI (p + 1)) ∧ pk_bL (r + 15) V V' ∧ (∀ j, j ≠ p → bk_rL V' (r + 15) j = bk_rL V (r + 15) j) ∧ bk_rL V' (r + 15) p = lN (sp_sum (sp_F0 D p) 4) := by
  have d0 := hB.1
  intro m
  induction m with
  | zero =>
    intro c f V hc hf h1 h2 hV
    obtain rfl : c = 4 := by omega
    refine ⟨V, ?_, pk_bL.rf, fun _ _ => rfl, hV⟩
    rw [show f = f - 1 + 1 by omega, q_X12_anew_45, if_pos (show (4 : Int32) ≤ nI 4 by decide)]
    unfold q_X12_anew_105
    rw [show nI p + (1 : Int32) = nI (p + 1) from nI_add p 1]
  | succ m ih =>
    intro c f V hc hf h1 h2 hV
    obtain ⟨f', rfl⟩ : ∃ f', f = f' + 1 := ⟨f - 1, by omega⟩
    have pm : q_X12_mayMake N Y V (nI c) (nI p) = some (pk_B (sp_mk c (p / 4) (p % 4))) := by
      have := pr_may (N := N) (Y := Y) (V := V) (c := c) (i := p / 4) (e := p % 4) (by omega) (by omega) (by omega)
      rw [show 4 * (p / 4) + p % 4 = p by omega] at this
      exact this
    have c2 := h2 c (by omega)
    have hpl := sp_pl_in (c := c) hB
    have hl := sp_sh_le hB (show c < 4 by omega) sp_Gle
    have d1 : D 1 c ≤ 99 := hB.2.2.2.2.2.2.2.2.1 c (by omega)
    have hne := pk_lne (b := sp_pl D c) (by omega) (by omega)
    have es2 : D 1 c * sp_G / sp_pl D c = sp_sh D sp_G c := rfl
    have e0 : q_X12_anew_45 N Y k29 (f' + 1) V r (nI p) (nI c) = if ¬ sp_mk c (p / 4) (p % 4) then q_X12_anew_45 N Y k29 f' (bk_wL V (r + 15) p (lN (sp_sum (sp_F0 D p) c) + lN 0)) r (nI p) (nI (c + 1)) else q_X12_anew_45 N Y k29 f' (bk_wL V (r + 15) p (lN (sp_sum (sp_F0 D p) c) + lN (sp_sh D sp_G c))) r (nI p) (nI (c + 1)) := by
      have e4 : (4 : Int32) * nI (D 0 0) = nI (4 * D 0 0) := pk_mul 4 _
      rw [q_X12_anew_45, if_neg (show ¬ (4 : Int32) ≤ nI c from nI_ge (b := 4) (by omega) (by omega)), pk_ck hS.1, h1, e4, if_neg (show ¬ nI (4 * D 0 0) ≤ nI p by rw [nI_leI (by omega) (by omega)]; omega), pk_G, pm]
      simp (disch := omega) only [hS, pk_ckT, pk_bs, pk_letE, pk_bd2E, pk_bd3E, if_true, if_false, eq_self, not_true_eq_false, not_false_eq_true, true_and, and_true, Nat.not_lt_zero, Nat.zero_le, Nat.reduceEqDiff, Nat.reduceLT, Nat.reduceLeDiff, pk_ck, nI_clamp, pk_inE, pk_lit, pk_B0, c2, pr_places hS h1 (show c < 4 by omega), nI_l, pk_litL, hV, q_X12_anew_97, nI_add]
      rw [lN_mul, pk_lDiv (by omega) (by omega) (by omega), es2]
    rw [e0]
    have es : sp_sum (sp_F0 D p) (c + 1) = sp_sum (sp_F0 D p) c + sp_F0 D p c := rfl
    by_cases q : sp_mk c (p / 4) (p % 4)
    · rw [if_neg (fun g => g q)]
      obtain ⟨V', i1, i2, i3, i4⟩ := ih (c + 1) f' (bk_wL V (r + 15) p (lN (sp_sum (sp_F0 D p) c) + lN (sp_sh D sp_G c))) (by omega) (by omega) h1 h2 (by rw [pk_rL_same, if_pos rfl, lN_add, es]; unfold sp_F0; rw [if_pos q])
      exact ⟨V', i1, ⟨i2.1, fun a ha => (i2.2 a ha).trans (pk_rowL ha)⟩, fun j hj => (i3 j hj).trans (by rw [pk_rL_same, if_neg hj]), i4⟩
    · rw [if_pos q]
      obtain ⟨V', i1, i2, i3, i4⟩ := ih (c + 1) f' (bk_wL V (r + 15) p (lN (sp_sum (sp_F0 D p) c) + lN 0)) (by omega) (by omega) h1 h2 (by rw [pk_rL_same, if_pos rfl, lN_add, es]; unfold sp_F0; rw [if_neg q])
      exact ⟨V', i1, ⟨i2.1, fun a ha => (i2.2 a ha).trans (pk_rowL ha)⟩, fun j hj => (i3 j hj).trans (by rw [pk_rL_same, if_neg hj]), i4⟩
theorem pr_an29 (hN : 1000 ≤ N) (hS : pk_Rf Y r) (hB : pk_DB D P) : ∀ m p f V, p + m = 336 → m < f → bk_rI V r 1 = nI (D 0 0) → (∀ k, k < 4 → bk_rI V (r + 2) k = nI (D 1 k)) → (∀ j, j < p → bk_rL V (r + 15) j = lN (sp_w0 D j)) → ∃ V', q_X12_anew_29 N Y f V r (nI p) = some V' ∧ pk_bL (r + 15) V V' ∧ ∀ j, j < 336 → bk_rL V' (r + 15) j = lN (sp_w0 D j) := by
  have d0 := hB.1
  intro m
  induction m with
  | zero =>
    intro p f V hp hf h1 h2 h3
    refine ⟨V, ?_, pk_bL.rf, fun j hj => h3 j (by omega)⟩
    obtain rfl : p = 336 := by omega
    rw [show f = f - 1 + 1 by omega, q_X12_anew_29, if_pos (show (336 : Int32) ≤ nI 336 by decide)]
  | succ m ih =>
    intro p f V hp hf h1 h2 h3
    obtain ⟨f', rfl⟩ : ∃ f', f = f' + 1 := ⟨f - 1, by omega⟩
    have e0 : q_X12_anew_29 N Y (f' + 1) V r (nI p) = q_X12_anew_45 N Y (q_X12_anew_29 N Y f') N (bk_wL V (r + 15) p (lN 0)) r (nI p) (nI 0) := by
      rw [q_X12_anew_29, if_neg (show ¬ (336 : Int32) ≤ nI p from nI_ge (b := 336) (by omega) (by omega))]
      simp (disch := omega) only [hS, pk_ckT, pk_bs, pk_letE, pk_bd2E, pk_bd3E, if_true, if_false, eq_self, not_true_eq_false, not_false_eq_true, true_and, and_true, Nat.not_lt_zero, Nat.zero_le, Nat.reduceEqDiff, Nat.reduceLT, Nat.reduceLeDiff, pk_ck, nI_clamp, pk_inE, pk_lit, pk_litL]
    rw [e0]
    have w0 : bk_rL (bk_wL V (r + 15) p (lN 0)) (r + 15) p = lN 0 := by rw [pk_rL_same, if_pos rfl]
    by_cases q : p < 4 * D 0 0
    · obtain ⟨V1, a1, a2, a3, a4⟩ := pr_an45 (N := N) (k29 := q_X12_anew_29 N Y f') hN hS hB q 4 0 N (bk_wL V (r + 15) p (lN 0)) (by omega) (by omega) h1 h2 w0
      obtain ⟨V2, i1, i2, i3⟩ := ih (p + 1) f' V1 (by omega) (by omega) (a2.rdI.trans h1) (fun k hk => a2.rdI.trans (h2 k hk)) (fun j hj => by
        by_cases g : j = p
        · rw [g, a4]; unfold sp_w0; rw [if_pos q]
        · rw [a3 j g, pk_rL_same, if_neg g]; exact h3 j (by omega))
      exact ⟨V2, by rw [a1, i1], ⟨i2.1.trans a2.1, fun a ha => ((i2.2 a ha).trans (a2.2 a ha)).trans (pk_rowL ha)⟩, i3⟩
    · obtain ⟨V2, i1, i2, i3⟩ := ih (p + 1) f' (bk_wL V (r + 15) p (lN 0)) (by omega) (by omega) h1 h2 (fun j hj => by
        by_cases g : j = p
        · rw [g, w0]; unfold sp_w0; rw [if_neg q]
        · rw [pk_rL_same, if_neg g]; exact h3 j (by omega))
      refine ⟨V2, ?_, ⟨i2.1, fun a ha => (i2.2 a ha).trans (pk_rowL ha)⟩, i3⟩
      have e4 : (4 : Int32) * nI (D 0 0) = nI (4 * D 0 0) := pk_mul 4 _
      obtain ⟨N', hN'⟩ : ∃ N', N = N' + 1 := ⟨N - 1, by omega⟩
      rw [show q_X12_anew_45 N Y (q_X12_anew_29 N Y f') N (bk_wL V (r + 15) p (lN 0)) r (nI p) (nI 0) = q_X12_anew_45 N Y (q_X12_anew_29 N Y f') (N' + 1) (bk_wL V (r + 15) p (lN 0)) r (nI p) (nI 0) by rw [← hN'], q_X12_anew_45, if_neg (show ¬ (4 : Int32) ≤ nI 0 by decide), pk_ck hS.1, show bk_rI (bk_wL V (r + 15) p (lN 0)) r 1 = nI (D 0 0) from h1, e4, if_pos (show nI (4 * D 0 0) ≤ nI p by rw [nI_leI (by omega) (by omega)]; omega)]
      unfold q_X12_anew_105
      rw [show nI p + (1 : Int32) = nI (p + 1) from nI_add p 1]
      exact i1
theorem pr_anew (hN : 1000 ≤ N) (hS : pk_Rf Y r) (hT : pk_RT V r D P) (hB : pk_DB D P) : ∃ V', q_X12_anew N Y V r = some V' ∧ pk_RS V' r (1000 * D 0 4, 0, 0, sp_w0 D) ∧ bk_rI V' r 61 = nI 0 ∧ (∀ a, a ≠ r → V'.1 a = V.1 a) ∧ (∀ k, k < 58 ∨ 61 < k → bk_rI V' r k = bk_rI V r k) ∧ ∀ a, a ≠ r + 15 → V'.2 a = V.2 a := by
  obtain ⟨c1, c2, -⟩ := hT
  generalize hW : bk_wI (bk_wI (bk_wI (bk_wI V r 58 (nI (1000 * D 0 4))) r 59 (nI 0)) r 60 (nI 0)) r 61 (nI 0) = W
  have sl : ∀ k, k < 58 ∨ 61 < k → bk_rI W r k = bk_rI V r k := fun k hk => by
    rw [← hW, pk_rI_same, if_neg (by omega), pk_rI_same, if_neg (by omega), pk_rI_same, if_neg (by omega), pk_rI_same, if_neg (by omega)]
  have ro : ∀ a, a ≠ r → W.1 a = V.1 a := fun a ha => by rw [← hW, pk_rowI ha, pk_rowI ha, pk_rowI ha, pk_rowI ha]
  have wl : W.2 = V.2 := by rw [← hW]; rfl
  obtain ⟨V', a1, a2, a3⟩ := pr_an29 (N := N) hN hS hB 336 0 N W (by omega) (by omega) ((sl 1 (by omega)).trans c1.1) (fun k hk => (congrFun (ro (r + 2) (by omega)) k).trans (c2 k hk)) (fun j hj => by omega)
  refine ⟨V', ?_, ⟨?_, ?_, ?_, a3⟩, ?_, fun a ha => by rw [a2.1]; exact ro a ha, fun k hk => a2.rdI.trans (sl k hk), fun a ha => by rw [a2.2 a ha, wl]⟩
  · unfold q_X12_anew
    have e5 : bk_rI V r 5 = nI (D 0 4) := c1.2.2.2.2.1
    rw [pk_ck hS.1, e5, show (1000 : Int32) * nI (D 0 4) = nI (1000 * D 0 4) from pk_mul 1000 _, pk_letE, pk_letE, pk_letE, pk_letE]
    rw [← hW] at a1
    exact a1
  · rw [a2.rdI, ← hW, pk_rI_same, if_neg (by omega), pk_rI_same, if_neg (by omega), pk_rI_same, if_neg (by omega), pk_rI_same, if_pos rfl]
  · rw [a2.rdI, ← hW, pk_rI_same, if_neg (by omega), pk_rI_same, if_neg (by omega), pk_rI_same, if_pos rfl]
  · rw [a2.rdI, ← hW, pk_rI_same, if_neg (by omega), pk_rI_same, if_pos rfl]
  · rw [a2.rdI, ← hW, pk_rI_same, if_pos rfl]
end
