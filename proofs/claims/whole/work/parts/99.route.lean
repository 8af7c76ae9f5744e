/-! the class's route -/
def pk_Q (z : Nat) (V : bk_Val) (D : Nat → Nat → Nat) (w : Nat → Nat) (k : Nat) : Prop := bk_rI V (z + 3) 5 = nI k ∧ (∀ i, i < k → bk_rI V (z + 6) i = nI (sp_next D (sp_rt D w i))) ∧ (∀ i, i ≤ k → bk_rL V (z + 7) i = lN (sp_tot D (sp_rt D w i))) ∧ (∀ p, p < 4 * D 0 0 → bk_rL V (z + 4) p = lN (sp_rt D w k p)) ∧ ∀ i, i < D 0 0 → bk_rL V (z + 5) i = lN (sp_in (sp_rt D w k) i)
def pk_frQ (z : Nat) (V V' : bk_Val) : Prop := (∀ a, a ≠ z + 3 → a ≠ z + 6 → V'.1 a = V.1 a) ∧ (∀ k, k ≠ 5 → V'.1 (z + 3) k = V.1 (z + 3) k) ∧ (∀ a, a ≠ z + 4 → a ≠ z + 5 → a ≠ z + 7 → V'.2 a = V.2 a)
def sp_dj (D : Nat → Nat → Nat) (w : Nat → Nat) (i j : Nat) : Nat → Nat := fun p => if p < 4 * D 0 0 ∧ (p / 4 + D 0 0 - i) % D 0 0 < j then w p * D 0 2 / 100 else w p
section
variable {N z t u s tl r a b c d k n j h m l p q q0 md wa s' i f e gg v : Nat} {Y Y' : bk_Lay} {V V' V2 W : bk_Val} {x y x1 x2 x3 x4 x5 : Int32} {w1 w2 : Int64} {D : Nat → Nat → Nat} {P : Nat → List Nat} {T T' w R G : Nat → Nat} {st st' g : pk_St} {hs hs' : List pk_St} {img img' : Option (pk_St × List pk_St)} {pl : Option (Nat → Nat)} {fp r0 r1 : Int32} {A B : pk_A}
theorem pk_l3 (h : c ≤ a + b) : lN a + (lN b - lN c) = lN (a + b - c) := by
  rw [Int64.sub_eq_add_neg, ← Int64.add_assoc, ← Int64.sub_eq_add_neg, lN_add, lN_sub h]
theorem sp_win0 (hB : pk_DB D P) : sp_sum (sp_in w) (D 0 1) = sp_win D w 0 := by
  have b0 := hB.1
  have b1 := hB.2.1
  refine sp_sum_congr (fun k hk => ?_)
  rw [Nat.zero_add, Nat.mod_eq_of_lt (by omega)]
theorem pc_b52 (hN : 1000 ≤ N) (hM : pk_Mn Y z) (hB : pk_DB D P) (hF : ∀ p, w p ≤ 1000000000000000) (hw : ∀ j, j < D 0 0 → bk_rL V (z + 5) j = lN (sp_in w j)) : q_X3_bestInch_52 N Y N V (z + 3) (nI (D 0 0)) (nI (D 0 1)) (lN (sp_win D w 0)) 0 (lN (sp_win D w 0)) 1 = some (nI (sp_next D w)) := by
  have b0 := hB.1
  have b1 := hB.2.1
  have hG := sp_win_le (w := w) hB hF
  have e0 : q_X3_bestInch_52 N Y N V (z + 3) (nI (D 0 0)) (nI (D 0 1)) (lN (sp_win D w 0)) 0 (lN (sp_win D w 0)) 1 = q_X3_bestInch_52 N Y N V (z + 3) (nI (D 0 0)) (nI (D 0 1)) (lN (sp_win D w (1 - 1))) (nI (sp_best (sp_win D w) 1)) (lN (sp_win D w (sp_best (sp_win D w) 1))) (nI 1) := by
    rw [sp_best1]
    rfl
  rw [e0]
  refine loop_i (σ := Unit) (fun fu i _ => q_X3_bestInch_52 N Y fu V (z + 3) (nI (D 0 0)) (nI (D 0 1)) (lN (sp_win D w (i - 1))) (nI (sp_best (sp_win D w) i)) (lN (sp_win D w (sp_best (sp_win D w) i))) (nI i) = some (nI (sp_next D w))) (fun i _ => 0 < i) (D 0 0) ?_ ?_ N 1 () (by omega) (by omega) (by omega)
  · intro fu _ _
    rw [q_X3_bestInch_52, if_pos (nI_le (by omega) (by omega))]
    rfl
  · intro fu i _ hi h0 ih
    have ih' := ih () (by omega)
    rw [show i + 1 - 1 = i by omega] at ih'
    have hb := hG i
    have hc := hG (sp_best (sp_win D w) i)
    have hs := sp_win_s (D := D) (w := w) (i - 1)
    rw [show i - 1 + 1 = i by omega, Nat.mod_eq_of_lt (show i - 1 < D 0 0 by omega)] at hs
    have hm : (i - 1 + D 0 1) % D 0 0 < D 0 0 := Nat.mod_lt _ (by omega)
    have fin : q_X3_bestInch_86 N Y (q_X3_bestInch_52 N Y fu) V (z + 3) (nI (D 0 0)) (nI (D 0 1)) (nI (sp_best (sp_win D w) i)) (lN (sp_win D w (sp_best (sp_win D w) i))) (nI i) (lN (sp_win D w (i - 1))) (z + 5) (nI ((i - 1 + D 0 1) % D 0 0)) = some (nI (sp_next D w)) := by
      unfold q_X3_bestInch_86
      simp (disch := omega) only [hM, pk_ckT, pk_bs, pk_letE, pk_bd2E, pk_bd3E, if_true, if_false, eq_self, not_true_eq_false, not_false_eq_true, true_and, and_true, Nat.not_lt_zero, Nat.zero_le, Nat.reduceEqDiff, Nat.reduceLT, Nat.reduceLeDiff, pk_ck, pk_lit, nI_add, pk_mul, nI_clamp, nI_leI, nI_ltI, nI_eq, pk_div, pk_remE, pk_inE, pk_sub, hw ((i - 1 + D 0 1) % D 0 0) hm, hw (i - 1) (show i - 1 < D 0 0 by omega)]
      rw [pk_l3 (by omega), show sp_win D w (i - 1) + sp_in w ((i - 1 + D 0 1) % D 0 0) - sp_in w (i - 1) = sp_win D w i by omega]
      simp (disch := omega) only [pk_cmpL, pk_lLE, q_X3_bestInch_113, pk_lit, nI_add]
      by_cases c : sp_win D w (sp_best (sp_win D w) i) < sp_win D w i
      · rw [if_neg (by omega)]
        rw [show sp_best (sp_win D w) (i + 1) = i from if_pos c] at ih'
        exact ih'
      · rw [if_pos (by omega)]
        rw [show sp_best (sp_win D w) (i + 1) = sp_best (sp_win D w) i from if_neg c] at ih'
        exact ih'
    have em : (i - 1 + D 0 1) % D 0 0 = if D 0 0 ≤ i + D 0 1 - 1 then i + D 0 1 - 1 - D 0 0 else i + D 0 1 - 1 := by
      rw [show i - 1 + D 0 1 = i + D 0 1 - 1 by omega]
      by_cases c : D 0 0 ≤ i + D 0 1 - 1
      · rw [if_pos c, Nat.mod_eq_sub_mod c, Nat.mod_eq_of_lt (by omega)]
      · rw [if_neg c, Nat.mod_eq_of_lt (by omega)]
    rw [q_X3_bestInch_52]
    simp (disch := omega) only [hM, pk_ckT, pk_bs, pk_letE, pk_bd2E, pk_bd3E, if_true, if_false, eq_self, not_true_eq_false, not_false_eq_true, true_and, and_true, Nat.not_lt_zero, Nat.zero_le, Nat.reduceEqDiff, Nat.reduceLT, Nat.reduceLeDiff, pk_ck, nI_leI, nI_add, pk_sub, pk_lit]
    rw [if_neg (by omega)]
    by_cases c : D 0 0 ≤ i + D 0 1 - 1
    · rw [if_pos c]
      rw [em, if_pos c] at fin
      exact fin
    · rw [if_neg c]
      rw [em, if_neg c] at fin
      exact fin
theorem pc_best3 (hN : 1000 ≤ N) (hM : pk_Mn Y z) (h4 : bk_rR Y (z + 3) 4 = some t) (hS : pk_Sd Y t) (hT : pk_CT V t D P) (hB : pk_DB D P) (hF : ∀ p, w p ≤ 1000000000000000) (hw : ∀ j, j < D 0 0 → bk_rL V (z + 5) j = lN (sp_in w j)) : q_X3_bestInch N Y V (z + 3) = some (nI (sp_next D w)) := by
  have b0 := hB.1
  have b1 := hB.2.1
  have e0 : q_X3_bestInch N Y V (z + 3) = q_X3_bestInch_21 N Y N V (z + 3) (nI (D 0 0)) (nI (D 0 1)) (lN (sp_sum (sp_in w) 0)) (nI 0) := by
    simp only [q_X3_bestInch, hM, h4, bk_nl, hS, pk_ckT, pk_bs, pk_letE, pk_bd2E, pk_bd3E, if_true, if_false, eq_self, not_true_eq_false, not_false_eq_true, true_and, and_true, Nat.not_lt_zero, Nat.zero_le, Nat.reduceEqDiff, Nat.reduceLT, Nat.reduceLeDiff, pk_ck, pc_inches hS hT, pc_hand hS hT]
    rfl
  rw [e0]
  refine loop_i (σ := Unit) (fun fu j _ => q_X3_bestInch_21 N Y fu V (z + 3) (nI (D 0 0)) (nI (D 0 1)) (lN (sp_sum (sp_in w) j)) (nI j) = some (nI (sp_next D w))) (fun _ _ => True) (D 0 1) ?_ ?_ N 0 () (by omega) (by omega) trivial
  · intro fu _ _
    rw [q_X3_bestInch_21, if_pos (nI_le (by omega) (by omega)), sp_win0 hB]
    exact pc_b52 hN hM hB hF hw
  · intro fu j _ hj _ ih
    have ih' : q_X3_bestInch_21 N Y fu V (z + 3) (nI (D 0 0)) (nI (D 0 1)) (lN (sp_sum (sp_in w) j + sp_in w j)) (nI (j + 1)) = some (nI (sp_next D w)) := ih () trivial
    rw [q_X3_bestInch_21]
    simp (disch := omega) only [hM, pk_ckT, pk_bs, pk_letE, pk_bd2E, pk_bd3E, if_true, if_false, eq_self, not_true_eq_false, not_false_eq_true, true_and, and_true, Nat.not_lt_zero, Nat.zero_le, Nat.reduceEqDiff, Nat.reduceLT, Nat.reduceLeDiff, pk_ck, pk_lit, nI_add, pk_mul, nI_clamp, nI_leI, nI_ltI, nI_eq, pk_div, pk_remE, pk_inE, pk_sub, hw j (by omega), lN_add]
    rw [if_neg (by omega)]
    exact ih'
/-- an inch's weights made less, in a longer row -/
theorem pc_lessenP (hN : 1000 ≤ N) (hs : bk_sh Y wa = (3, n)) (hn : n ≤ 336) (hi : 4 * i + 4 ≤ n) (hm : m ≤ 100) (hk : k ≤ 600) (hF : ∀ p, w p ≤ 1000000000000000) (hw : ∀ p, p / 4 = i → bk_rL V wa p = lN (w p)) : ∃ V', q_X0_lessenInch N Y V wa (nI i) (nI m) (nI k) = some V' ∧ V'.1 = V.1 ∧ (∀ b, b ≠ wa → V'.2 b = V.2 b) ∧ ∀ p, bk_rL V' wa p = if p / 4 = i then lN (sp_les m (w p) k) else bk_rL V wa p := by
  have e0 : q_X0_lessenInch N Y V wa (nI i) (nI m) (nI k) = q_X0_lessenInch_5 N Y N V wa (nI i) (nI m) (nI k) (nI (4 * i + 0)) := by
    rw [Nat.add_zero, ← pk_mul]
    rfl
  rw [e0]
  refine loop_i (σ := bk_Val) (fun fu j V1 => ∃ V', q_X0_lessenInch_5 N Y fu V1 wa (nI i) (nI m) (nI k) (nI (4 * i + j)) = some V' ∧ V'.1 = V.1 ∧ (∀ b, b ≠ wa → V'.2 b = V.2 b) ∧ ∀ p, bk_rL V' wa p = if p / 4 = i then lN (sp_les m (w p) k) else bk_rL V wa p) (fun j V1 => V1.1 = V.1 ∧ (∀ b, b ≠ wa → V1.2 b = V.2 b) ∧ ∀ p, bk_rL V1 wa p = if p / 4 = i ∧ p < 4 * i + j then lN (sp_les m (w p) k) else bk_rL V wa p) 4 ?_ ?_ N 0 V (by omega) (by omega) ⟨rfl, fun _ _ => rfl, fun p => by rw [if_neg (by omega)]⟩
  · intro fu V1 hV
    refine ⟨V1, ?_, hV.1, hV.2.1, fun p => ?_⟩
    · rw [q_X0_lessenInch_5]
      simp (disch := omega) only [pk_lit, nI_add, pk_mul, nI_clamp, nI_leI, nI_ltI, nI_eq, pk_div, pk_remE, pk_inE, pk_sub]
      rw [if_neg (by omega), if_pos (by omega)]
    · rw [hV.2.2 p]
      by_cases c : p / 4 = i
      · rw [if_pos (by omega), if_pos c]
      · rw [if_neg (by omega), if_neg c]
  · intro fu j V1 hj hV ih
    have e1 := hV.2.2 (4 * i + j)
    rw [if_neg (by omega), hw (4 * i + j) (by omega)] at e1
    obtain ⟨V', q1, q2⟩ := ih (bk_wL V1 wa (4 * i + j) (lN (sp_les m (w (4 * i + j)) k))) ⟨hV.1, fun b hb => (pk_rowL (by omega)).trans (hV.2.1 b hb), fun p => by
      rw [pk_rL_same]
      by_cases c : p = 4 * i + j
      · rw [if_pos c, if_pos (by omega), c]
      · rw [if_neg c, hV.2.2 p]
        by_cases c2 : p / 4 = i ∧ p < 4 * i + j
        · rw [if_pos c2, if_pos (by omega)]
        · rw [if_neg c2, if_neg (by omega)]⟩
    refine ⟨V', ?_, q2⟩
    rw [q_X0_lessenInch_5]
    simp (disch := omega) only [hs, pk_ckT, pk_bs, pk_letE, pk_bd2E, pk_bd3E, if_true, if_false, eq_self, not_true_eq_false, not_false_eq_true, true_and, and_true, Nat.not_lt_zero, Nat.zero_le, Nat.reduceEqDiff, Nat.reduceLT, Nat.reduceLeDiff, pk_ck, pk_lit, nI_add, pk_mul, nI_clamp, nI_leI, nI_ltI, nI_eq, pk_div, pk_remE, pk_inE, pk_sub, e1]
    rw [if_neg (by omega), if_neg (by omega)]
    refine Eq.trans (pc_less36 hN hm hk (hF _)) ?_
    rw [q_X0_lessenInch_66]
    simp (disch := omega) only [hs, pk_ckT, pk_bs, pk_letE, pk_bd2E, pk_bd3E, if_true, if_false, eq_self, not_true_eq_false, not_false_eq_true, true_and, and_true, Nat.not_lt_zero, Nat.zero_le, Nat.reduceEqDiff, Nat.reduceLT, Nat.reduceLeDiff, pk_ck, pk_lit, nI_add, pk_mul, nI_clamp, nI_leI, nI_ltI, nI_eq, pk_div, pk_remE, pk_inE, pk_sub]
    exact q1
theorem sp_dj_s (hd : 12 ≤ D 0 0) (hi : i < D 0 0) (hj : j < 12) (hp : p < 4 * D 0 0) : sp_dj D w i (j + 1) p = if p / 4 = (i + j) % D 0 0 then sp_dj D w i j p * D 0 2 / 100 else sp_dj D w i j p := by
  unfold sp_dj
  simp only [sp_lookE hd hi (show p / 4 < D 0 0 by omega) hj]
  by_cases c : (p / 4 + D 0 0 - i) % D 0 0 = j
  · rw [if_pos c, if_pos ⟨hp, by omega⟩, if_neg (by omega)]
  · rw [if_neg c]
    by_cases c2 : (p / 4 + D 0 0 - i) % D 0 0 < j
    · rw [if_pos ⟨hp, by omega⟩, if_pos ⟨hp, c2⟩]
    · rw [if_neg (by omega), if_neg (by omega)]
theorem sp_dj_le (hm : D 0 2 ≤ 99) : sp_dj D w i j p ≤ w p := by
  unfold sp_dj
  split
  · have h2 : w p * D 0 2 ≤ w p * 100 := Nat.mul_le_mul_left _ (by omega)
    omega
  · omega
theorem sp_in_mono {w' : Nat → Nat} (h : ∀ p, p / 4 = a → w' p ≤ w p) : sp_in w' a ≤ sp_in w a := by
  have h0 := h (4 * a) (by omega)
  have h1 := h (4 * a + 1) (by omega)
  have h2 := h (4 * a + 2) (by omega)
  have h3 := h (4 * a + 3) (by omega)
  unfold sp_in
  omega
theorem sp_in_eq {w' : Nat → Nat} (h : ∀ p, p / 4 = a → w' p = w p) : sp_in w' a = sp_in w a := by
  unfold sp_in
  rw [h (4 * a) (by omega), h (4 * a + 1) (by omega), h (4 * a + 2) (by omega), h (4 * a + 3) (by omega)]
theorem sp_tot_mono {w' : Nat → Nat} (h : ∀ p, w' p ≤ w p) : ∀ n, sp_sum w' n ≤ sp_sum w n
  | 0 => Nat.le_refl _
  | n + 1 => Nat.add_le_add (sp_tot_mono h n) (h n)
theorem pc_dipAt (hN : 1000 ≤ N) (hM : pk_Mn Y z) (h4 : bk_rR Y (z + 3) 4 = some t) (hS : pk_Sd Y t) (hT : pk_CT V t D P) (hB : pk_DB D P) (hi : i < D 0 0) (hF : ∀ p, w p ≤ 1000000000000000) (hv : ∀ p, p < 4 * D 0 0 → bk_rL V (z + 4) p = lN (w p)) (hw : ∀ j, j < D 0 0 → bk_rL V (z + 5) j = lN (sp_in w j)) : ∃ V', q_X3_dipAt N Y V (z + 3) (nI i) = some (lN (sp_tot D w - sp_tot D (sp_dip D w i)), V') ∧ V'.1 = V.1 ∧ (∀ b, b ≠ z + 4 → b ≠ z + 5 → V'.2 b = V.2 b) ∧ (∀ p, p < 4 * D 0 0 → bk_rL V' (z + 4) p = lN (sp_dip D w i p)) ∧ ∀ j, j < D 0 0 → bk_rL V' (z + 5) j = lN (sp_in (sp_dip D w i) j) := by
  have b0 := hB.1
  have b1 := hB.2.1
  have b2 := hB.2.2.1
  have hle : ∀ j p, sp_dj D w i j p ≤ w p := fun j p => sp_dj_le (by omega)
  have e0 : q_X3_dipAt N Y V (z + 3) (nI i) = q_X3_dipAt_5 N Y N V (z + 3) (nI i) (lN (sp_tot D w - sp_tot D (sp_dj D w i 0))) (nI 0) := by
    have : sp_dj D w i 0 = w := by
      funext p
      unfold sp_dj
      rw [if_neg (by omega)]
    rw [this, Nat.sub_self]
    rfl
  rw [e0]
  refine loop_i (σ := bk_Val) (fun fu j V1 => ∃ V', q_X3_dipAt_5 N Y fu V1 (z + 3) (nI i) (lN (sp_tot D w - sp_tot D (sp_dj D w i j))) (nI j) = some (lN (sp_tot D w - sp_tot D (sp_dip D w i)), V') ∧ V'.1 = V.1 ∧ (∀ b, b ≠ z + 4 → b ≠ z + 5 → V'.2 b = V.2 b) ∧ (∀ p, p < 4 * D 0 0 → bk_rL V' (z + 4) p = lN (sp_dip D w i p)) ∧ ∀ j, j < D 0 0 → bk_rL V' (z + 5) j = lN (sp_in (sp_dip D w i) j)) (fun j V1 => V1.1 = V.1 ∧ (∀ b, b ≠ z + 4 → b ≠ z + 5 → V1.2 b = V.2 b) ∧ (∀ p, p < 4 * D 0 0 → bk_rL V1 (z + 4) p = lN (sp_dj D w i j p)) ∧ ∀ a, a < D 0 0 → bk_rL V1 (z + 5) a = lN (sp_in (sp_dj D w i j) a)) (D 0 1) ?_ ?_ N 0 V (by omega) (by omega) ⟨rfl, fun _ _ _ => rfl, ?_, ?_⟩
  · intro fu V1 hV
    have hT1 : pk_CT V1 t D P := by
      have q := hT
      unfold pk_CT pk_CR bk_rI at q ⊢
      rw [hV.1]
      exact q
    refine ⟨V1, ?_, hV.1, hV.2.1, hV.2.2⟩
    rw [q_X3_dipAt_5]
    simp (disch := omega) only [hM, h4, bk_nl, hS, pk_ckT, pk_bs, pk_letE, pk_bd2E, pk_bd3E, if_true, if_false, eq_self, not_true_eq_false, not_false_eq_true, true_and, and_true, Nat.not_lt_zero, Nat.zero_le, Nat.reduceEqDiff, Nat.reduceLT, Nat.reduceLeDiff, pk_ck, pc_hand hS hT1, nI_leI, Nat.le_refl]
    rfl
  · intro fu j V1 hj hV ih
    have hT1 : pk_CT V1 t D P := by
      have q := hT
      unfold pk_CT pk_CR bk_rI at q ⊢
      rw [hV.1]
      exact q
    have hq : (i + j) % D 0 0 < D 0 0 := Nat.mod_lt _ (by omega)
    obtain ⟨at', hat⟩ : ∃ q, q = (i + j) % D 0 0 := ⟨_, rfl⟩
    rw [← hat] at hq
    have hs : ∀ p, p < 4 * D 0 0 → sp_dj D w i (j + 1) p = if p / 4 = at' then sp_dj D w i j p * D 0 2 / 100 else sp_dj D w i j p := fun p hp => by rw [hat]; exact sp_dj_s b0.1 hi (by omega) hp
    obtain ⟨V3, q1, q2, q3, q4⟩ := pc_lessenP (N := N) (Y := Y) (V := V1) (wa := z + 4) (n := 336) (i := at') (m := D 0 2) (k := 1) (w := sp_dj D w i j) hN (by simp only [hM]) (by omega) (by omega) (by omega) (by omega) (fun p => Nat.le_trans (hle j p) (hF p)) (fun p hp => hV.2.2.1 p (by omega))
    have hv3 : ∀ p, p < 4 * D 0 0 → bk_rL V3 (z + 4) p = lN (sp_dj D w i (j + 1) p) := fun p hp => by
      rw [q4 p, hs p hp]
      by_cases c : p / 4 = at'
      · rw [if_pos c, if_pos c]
        rfl
      · rw [if_neg c, if_neg c]
        exact hV.2.2.1 p hp
    have ho : q_X0_totalOfInch N Y V3 (z + 4) (nI at') = some (lN (sp_in (sp_dj D w i (j + 1)) at')) := pc_ofInch (N := N) (n := 336) hN (by simp only [hM]) (by omega) (by omega) (fun p h1 h2 => hv3 p (by omega))
    have hr5 : bk_rL V3 (z + 5) at' = lN (sp_in (sp_dj D w i j) at') := by
      rw [← hV.2.2.2 at' hq]
      exact congrFun (q3 (z + 5) (by omega)) at'
    have hmono : ∀ p, p < 4 * D 0 0 → sp_dj D w i (j + 1) p ≤ sp_dj D w i j p := fun p hp => by
      rw [hs p hp]
      split
      · have h2 : sp_dj D w i j p * D 0 2 ≤ sp_dj D w i j p * 100 := Nat.mul_le_mul_left _ (by omega)
        omega
      · omega
    have hin1 : sp_in (sp_dj D w i (j + 1)) at' ≤ sp_in (sp_dj D w i j) at' := sp_in_mono (fun p hp => hmono p (by omega))
    have hin2 : ∀ a, a < D 0 0 → a ≠ at' → sp_in (sp_dj D w i (j + 1)) a = sp_in (sp_dj D w i j) a := fun a ha hn => sp_in_eq (fun p hp => by rw [hs p (by omega), if_neg (by omega)])
    have hone := sp_sum_one (f := sp_in (sp_dj D w i (j + 1))) (g := sp_in (sp_dj D w i j)) (a := at') (D 0 0) hq hin2
    rw [← sp_sum_in, ← sp_sum_in] at hone
    have hone' : sp_tot D (sp_dj D w i (j + 1)) + sp_in (sp_dj D w i j) at' = sp_tot D (sp_dj D w i j) + sp_in (sp_dj D w i (j + 1)) at' := hone
    have ht1 : sp_tot D (sp_dj D w i j) ≤ sp_tot D w := sp_tot_mono (hle j) _
    have ht2 : sp_tot D (sp_dj D w i (j + 1)) ≤ sp_tot D w := sp_tot_mono (hle (j + 1)) _
    have ih' := ih (bk_wL V3 (z + 5) at' (lN (sp_in (sp_dj D w i (j + 1)) at'))) ⟨q2.trans hV.1, fun b h1 h2 => (pk_rowL h2).trans ((q3 b h1).trans (hV.2.1 b h1 h2)), fun p hp => by rw [pk_rL_ne (by omega)]; exact hv3 p hp, fun a ha => by
      rw [pk_rL_same]
      by_cases c : a = at'
      · rw [if_pos c, c]
      · rw [if_neg c, hin2 a ha c, ← hV.2.2.2 a ha]
        exact congrFun (q3 (z + 5) (by omega)) a⟩
    have hrd := pc_round (N := N) (V := V1) (a := i + j) hS hT1 hB (by omega)
    rw [← hat] at hrd
    rw [q_X3_dipAt_5]
    simp (disch := omega) only [hM, h4, bk_nl, hS, pk_ckT, pk_bs, pk_letE, pk_bd2E, pk_bd3E, if_true, if_false, eq_self, not_true_eq_false, not_false_eq_true, true_and, and_true, Nat.not_lt_zero, Nat.zero_le, Nat.reduceEqDiff, Nat.reduceLT, Nat.reduceLeDiff, pk_ck, pc_hand hS hT1, pk_lit, nI_add, pk_mul, nI_clamp, nI_leI, nI_ltI, nI_eq, pk_div, pk_remE, pk_inE, pk_sub, hrd, pc_miss hS hT1, q1, ho, hr5]
    rw [if_neg (by omega), pk_l3 (by omega), show sp_tot D w - sp_tot D (sp_dj D w i j) + sp_in (sp_dj D w i j) at' - sp_in (sp_dj D w i (j + 1)) at' = sp_tot D w - sp_tot D (sp_dj D w i (j + 1)) by omega]
    exact ih'
  · intro p hp
    rw [hv p hp]
    unfold sp_dj
    rw [if_neg (by omega)]
  · intro a ha
    rw [hw a ha]
    have : sp_dj D w i 0 = w := by
      funext p
      unfold sp_dj
      rw [if_neg (by omega)]
    rw [this]
end
