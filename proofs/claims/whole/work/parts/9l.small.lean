/-! states of the two readers; numbers, signs -/
def pk_PC (z : Nat) (V : bk_Val) (T : Nat → Nat) (L p : Nat) : Prop := pk_txC z V T L ∧ pk_tkC z V T L p ∧ p ≤ L ∧ bk_rI V (z + 54) 4 = nI 0
def pk_FC (z : Nat) (V : bk_Val) (k e : Nat) : Prop := bk_rI V (z + 54) 4 = nI k ∧ bk_rI V (z + 54) 5 = nI e
/-- what the class's readers write: its fields 3 to 5 and its tokens -/
def pk_fN (z : Nat) (V V' : bk_Val) : Prop := V'.2 = V.2 ∧ (∀ a, a ≠ z + 54 → a ≠ z + 55 → V'.1 a = V.1 a) ∧ ∀ k, k < 3 ∨ 5 < k → V'.1 (z + 54) k = V.1 (z + 54) k
def pk_gd (r : Nat) (V : bk_Val) : Prop := bk_rI V r 21 = nI 0 ∧ bk_rI V r 22 = -nI 1
def pk_PR (r : Nat) (V : bk_Val) (T : Nat → Nat) (L p : Nat) : Prop := pk_txR r V T L ∧ pk_tkR r V T L p ∧ p ≤ L ∧ pk_gd r V
def pk_FR (r : Nat) (V : bk_Val) (k e : Nat) : Prop := bk_rI V r 21 = nI k ∧ bk_rI V r 22 = nI e ∧ 0 < k ∧ k < 10
def pk_frU (r : Nat) (V V' : bk_Val) : Prop := (∀ a, a ≠ r → V'.1 a = V.1 a) ∧ (∀ k, k < 21 ∨ k = 23 ∨ k = 24 ∨ 30 < k → V'.1 r k = V.1 r k) ∧ (∀ a, a ≠ r → V'.2 a = V.2 a) ∧ (∀ k, k ≠ 31 → V'.2 r k = V.2 r k)
/-- a number's fault; 0 for none -/
def tq_no (T : Nat → Nat) (L p lo hi : Nat) : Nat := if tq_k T L p = 2 then (if tq_e T L p - tq_s T L p ≤ 4 ∧ lo ≤ tq_v T L p ∧ tq_v T L p ≤ hi then 0 else 2) else 1
section
variable {N z t u s tl r a b c d k n j h m l p q q0 md wa s' i f e gg v S L g lo hi : Nat} {Y Y' : bk_Lay} {V V' V2 W : bk_Val} {x y x1 x2 x3 x4 x5 ee : Int32} {w1 w2 : Int64} {D : Nat → Nat → Nat} {P : Nat → List Nat} {T T' w R G In : Nat → Nat} {cc : Nat → Bool}
theorem pk_fN.rf : pk_fN z V V := ⟨rfl, fun _ _ _ => rfl, fun _ _ => rfl⟩
theorem pk_fN.tr (h : pk_fN z V V') (h2 : pk_fN z V' V2) : pk_fN z V V2 := ⟨h2.1.trans h.1, fun a q1 q2 => (h2.2.1 a q1 q2).trans (h.2.1 a q1 q2), fun k q => (h2.2.2 k q).trans (h.2.2 k q)⟩
theorem pk_fN.wt (hk : 3 ≤ k ∧ k ≤ 5) : pk_fN z V (bk_wI V (z + 54) k x) := ⟨rfl, fun _ q _ => pk_rowI q, fun j q => pk_slot (by omega)⟩
theorem pk_but.fN (h : pk_but (z + 55) V V') : pk_fN z V V' := ⟨h.1, fun a _ q => h.2 a q, fun k _ => by rw [h.2 (z + 54) (by omega)]⟩
theorem pk_txC.fN (h : pk_txC z V T L) (f : pk_fN z V V') : pk_txC z V' T L := ⟨fun j hj => (congrFun (f.2.1 (z + 2) (by omega) (by omega)) j).trans (h.1 j hj), h.2⟩
theorem pk_tkC.w54 (h : pk_tkC z V T L p) : pk_tkC z (bk_wI V (z + 54) k x) T L p := ⟨(pk_rI_ne (by omega)).trans h.1, (pk_rI_ne (by omega)).trans h.2.1, (pk_rI_ne (by omega)).trans h.2.2.1, (pk_rI_ne (by omega)).trans h.2.2.2⟩
/-- the class goes on -/
theorem pc_goes (hN : 1000 ≤ N) (hM : pk_Mn Y z) (h : pk_PC z V T L p) : ∃ V', q_X9_step N Y V (z + 55) = some V' ∧ pk_but (z + 55) V V' ∧ pk_PC z V' T L (tq_e T L p) := by
  obtain ⟨h1, h2, h3, h4⟩ := h
  obtain ⟨V', e1, e2, e3⟩ := pc_step (N := N) hN hM h1 h2.1 h2.2.1 (tq_e_le h1.2.2 h3)
  exact ⟨V', e1, e2, h1.but e2, e3, tq_e_le h1.2.2 h3, (congrFun (e2.2 (z + 54) (by omega)) 4).trans h4⟩
theorem pc_refuse8 (hM : pk_Mn Y z) (h : pk_PC z V T L p) : ∃ V', q_X8_refuse N Y V (z + 54) (nI k) = some (nI 0, V') ∧ pk_fN z V V' ∧ pk_FC z V' k (tq_s T L p) := by
  obtain ⟨h1, h2, h3, h4⟩ := h
  refine ⟨bk_wI (bk_wI V (z + 54) 4 (nI k)) (z + 54) 5 (nI (tq_s T L p)), ?_, (pk_fN.wt (by omega)).tr (pk_fN.wt (by omega)), ?_, ?_⟩
  · have e3 : bk_rI (bk_wI V (z + 54) 4 (nI k)) (z + 55) 3 = nI (tq_s T L p) := (pk_rI_ne (by omega)).trans h2.2.2.1
    simp only [q_X8_refuse, hM, pk_ckT, pk_bs, pk_letE, pk_bd2E, pk_bd3E, if_true, if_false, eq_self, not_true_eq_false, not_false_eq_true, true_and, and_true, Nat.not_lt_zero, Nat.zero_le, Nat.reduceEqDiff, Nat.reduceLT, Nat.reduceLeDiff, pk_ck, e3]
    rfl
  · simp (disch := omega) only [pk_rI_same, pk_rI_ne, pk_rI_wL, pk_rL_wI, pk_rL_same, pk_rL_ne, pk_ckT, pk_bs, pk_letE, pk_bd2E, pk_bd3E, if_true, if_false, eq_self, not_true_eq_false, not_false_eq_true, true_and, and_true, Nat.not_lt_zero, Nat.zero_le, Nat.reduceEqDiff, Nat.reduceLT, Nat.reduceLeDiff, pk_ck]
  · simp (disch := omega) only [pk_rI_same, pk_rI_ne, pk_rI_wL, pk_rL_wI, pk_rL_same, pk_rL_ne, pk_ckT, pk_bs, pk_letE, pk_bd2E, pk_bd3E, if_true, if_false, eq_self, not_true_eq_false, not_false_eq_true, true_and, and_true, Nat.not_lt_zero, Nat.zero_le, Nat.reduceEqDiff, Nat.reduceLT, Nat.reduceLeDiff, pk_ck]
theorem pc_isSign (hM : pk_Mn Y z) (h : pk_PC z V T L p) (hc : c < 128) : q_X9_isSign N Y V (z + 55) (nI c) = some (pk_B (tq_k T L p = 3 ∧ T (tq_s T L p) = c)) := by
  obtain ⟨h1, ⟨a1, a2, a3, a4⟩, h3, h4⟩ := h
  have hL := h1.2.2
  have kb := tq_k_b (T := T) (L := L) (p := p)
  obtain ⟨s1, s2, -, -⟩ := tq_s_p (T := T) hL h3
  unfold q_X9_isSign
  simp (disch := omega) only [hM, pk_ckT, pk_bs, pk_letE, pk_bd2E, pk_bd3E, if_true, if_false, eq_self, not_true_eq_false, not_false_eq_true, true_and, and_true, Nat.not_lt_zero, Nat.zero_le, Nat.reduceEqDiff, Nat.reduceLT, Nat.reduceLeDiff, pk_ck, pk_lit, nI_add, pk_mul, nI_clamp, nI_leI, nI_ltI, nI_eq, pk_div, pk_remE, pk_inE, pk_sub, a1, a3, a4]
  by_cases c1 : tq_k T L p = 3
  · have hw := ((tq_e_p (T := T) hL h3).2.2.1 (by omega)).1
    have ex := h1.1 (tq_s T L p) hw
    have kq := pk_by_eq (a := c) (h1.2.1 (tq_s T L p)) hc
    rw [if_pos c1, if_neg (by omega)]
    simp (disch := omega) only [pk_ckT, pk_bs, pk_letE, pk_bd2E, pk_bd3E, if_true, if_false, eq_self, not_true_eq_false, not_false_eq_true, true_and, and_true, Nat.not_lt_zero, Nat.zero_le, Nat.reduceEqDiff, Nat.reduceLT, Nat.reduceLeDiff, pk_ck, pk_lit, nI_add, pk_mul, nI_clamp, nI_leI, nI_ltI, nI_eq, pk_div, pk_remE, pk_inE, pk_sub, ex, kq]
    by_cases c2 : T (tq_s T L p) = c
    · rw [if_pos c2, pk_Bt ⟨c1, c2⟩]
    · rw [if_neg c2, pk_Bf (fun q => c2 q.2)]
  · rw [if_neg c1, pk_Bf (fun q => c1 q.1)]
theorem pk_by_lo (hc : c < 128) : pk_by c = nI c := (pk_by_eq (c := c) (a := c) (by omega) hc).mpr rfl
theorem pc_number (hN : 1000 ≤ N) (hM : pk_Mn Y z) (h : pk_PC z V T L p) (hk : tq_k T L p = 2) (hl : tq_e T L p - tq_s T L p ≤ 4) : q_X9_number N Y V (z + 55) = some (nI (tq_v T L p)) := by
  obtain ⟨h1, ⟨a1, a2, a3, a4⟩, h3, h4⟩ := h
  have hL := h1.2.2
  obtain ⟨s1, s2, -, -⟩ := tq_s_p (T := T) hL h3
  obtain ⟨t1, t2, -, -⟩ := tq_e_p (T := T) hL h3
  obtain ⟨hd, -⟩ := tq_dg (T := T) hL h3 hk
  have e0 : q_X9_number N Y V (z + 55) = q_X9_number_7 N Y N V (z + 55) (nI (tq_nv (fun i => T (tq_s T L p + i) - 48) (tq_s T L p - tq_s T L p))) (nI (tq_s T L p)) := by
    rw [Nat.sub_self]
    simp only [q_X9_number, hM, pk_ckT, pk_bs, pk_letE, pk_bd2E, pk_bd3E, if_true, if_false, eq_self, not_true_eq_false, not_false_eq_true, true_and, and_true, Nat.not_lt_zero, Nat.zero_le, Nat.reduceEqDiff, Nat.reduceLT, Nat.reduceLeDiff, pk_ck, a3]
    rfl
  have ev : tq_v T L p = tq_nv (fun i => T (tq_s T L p + i) - 48) (tq_e T L p - tq_s T L p) := by
    unfold tq_v
    rw [if_pos hk, Nat.min_eq_left hl]
  rw [e0, ev]
  refine loop_i (σ := Unit) (fun fu j _ => q_X9_number_7 N Y fu V (z + 55) (nI (tq_nv (fun i => T (tq_s T L p + i) - 48) (j - tq_s T L p))) (nI j) = some (nI (tq_nv (fun i => T (tq_s T L p + i) - 48) (tq_e T L p - tq_s T L p)))) (fun j _ => tq_s T L p ≤ j) (tq_e T L p) ?_ ?_ N (tq_s T L p) () (by omega) (by omega) (Nat.le_refl _)
  · intro fu _ _
    rw [q_X9_number_7]
    simp (disch := omega) only [hM, pk_ckT, pk_bs, pk_letE, pk_bd2E, pk_bd3E, if_true, if_false, eq_self, not_true_eq_false, not_false_eq_true, true_and, and_true, Nat.not_lt_zero, Nat.zero_le, Nat.reduceEqDiff, Nat.reduceLT, Nat.reduceLeDiff, pk_ck, pk_lit, nI_add, pk_mul, nI_clamp, nI_leI, nI_ltI, nI_eq, pk_div, pk_remE, pk_inE, pk_sub, a2, Nat.le_refl]
  · intro fu j _ hj h0 ih
    have hdj := hd (j - tq_s T L p) (by omega)
    rw [show tq_s T L p + (j - tq_s T L p) = j by omega] at hdj
    have ex := (h1.1 j hdj.1).trans (pk_by_lo (by omega))
    have ih' := ih () (by omega)
    rw [show j + 1 - tq_s T L p = (j - tq_s T L p) + 1 by omega] at ih'
    have es : tq_nv (fun i => T (tq_s T L p + i) - 48) ((j - tq_s T L p) + 1) = 10 * tq_nv (fun i => T (tq_s T L p + i) - 48) (j - tq_s T L p) + (T (tq_s T L p + (j - tq_s T L p)) - 48) := rfl
    rw [es, show tq_s T L p + (j - tq_s T L p) = j by omega] at ih'
    rw [q_X9_number_7]
    simp (disch := omega) only [hM, pk_ckT, pk_bs, pk_letE, pk_bd2E, pk_bd3E, if_true, if_false, eq_self, not_true_eq_false, not_false_eq_true, true_and, and_true, Nat.not_lt_zero, Nat.zero_le, Nat.reduceEqDiff, Nat.reduceLT, Nat.reduceLeDiff, pk_ck, pk_lit, nI_leI, nI_add, nI_clamp, pk_inE, pk_mul, a2, a3, ex]
    rw [if_neg (by omega), if_neg (by omega), pk_sub (by omega), show 10 * tq_nv (fun i => T (tq_s T L p + i) - 48) (j - tq_s T L p) + T j - 48 = 10 * tq_nv (fun i => T (tq_s T L p + i) - 48) (j - tq_s T L p) + (T j - 48) by omega]
    exact ih'
theorem pc_num (hN : 1000 ≤ N) (hM : pk_Mn Y z) (h : pk_PC z V T L p) (hlo : lo < 10000) (hhi : hi < 10000) : (tq_no T L p lo hi = 0 → ∃ V', q_X8_readNumber N Y V (z + 54) (nI lo) (nI hi) = some (nI 1, V') ∧ pk_fN z V V' ∧ bk_rI V' (z + 54) 3 = nI (tq_v T L p) ∧ pk_PC z V' T L (tq_e T L p)) ∧ (tq_no T L p lo hi ≠ 0 → ∃ V', q_X8_readNumber N Y V (z + 54) (nI lo) (nI hi) = some (nI 0, V') ∧ pk_fN z V V' ∧ pk_FC z V' (tq_no T L p lo hi) (tq_s T L p)) := by
  have hL := h.1.2.2
  have hp := h.2.2.1
  have kb := tq_k_b (T := T) (L := L) (p := p)
  obtain ⟨s1, s2, -, -⟩ := tq_s_p (T := T) hL hp
  obtain ⟨t1, t2, -, -⟩ := tq_e_p (T := T) hL hp
  have hv := tq_v_lt (T := T) hL hp
  have hsh : q_X9_isShort N Y V (z + 55) = some (pk_B (tq_e T L p - tq_s T L p ≤ 4)) := by
    unfold q_X9_isShort
    simp (disch := omega) only [hM, pk_ckT, pk_bs, pk_letE, pk_bd2E, pk_bd3E, if_true, if_false, eq_self, not_true_eq_false, not_false_eq_true, true_and, and_true, Nat.not_lt_zero, Nat.zero_le, Nat.reduceEqDiff, Nat.reduceLT, Nat.reduceLeDiff, pk_ck, h.2.1.2.1, h.2.1.2.2.1, pk_sub, pk_lit, nI_ltI]
    by_cases c : tq_e T L p - tq_s T L p ≤ 4
    · rw [if_neg (by omega), pk_Bt c]
    · rw [if_pos (by omega), pk_Bf c]
  have e42 : ∃ V', q_X8_readNumber_42 N Y V (z + 54) = some (nI 0, V') ∧ pk_fN z V V' ∧ pk_FC z V' 2 (tq_s T L p) := by
    obtain ⟨V', e1, e2, e3⟩ := pc_refuse8 (N := N) (k := 2) hM h
    refine ⟨V', ?_, e2, e3⟩
    simp only [q_X8_readNumber_42, hM, pk_ckT, pk_bs, pk_letE, pk_bd2E, pk_bd3E, if_true, if_false, eq_self, not_true_eq_false, not_false_eq_true, true_and, and_true, Nat.not_lt_zero, Nat.zero_le, Nat.reduceEqDiff, Nat.reduceLT, Nat.reduceLeDiff, pk_ck, pk_lit, e1]
    rw [pk_ck (Or.inl trivial)]
  have e0 : q_X8_readNumber N Y V (z + 54) (nI lo) (nI hi) = if tq_k T L p = 2 then Option.bind (q_X9_isShort N Y V (z + 55)) (fun r_10 => if r_10 = nI 0 then q_X8_readNumber_42 N Y V (z + 54) else Option.bind (q_X9_number N Y V (z + 55)) (fun r_12 => Option.bind (q_X11_isWithin N Y V r_12 (nI lo) (nI hi)) (fun r_14 => if r_14 = nI 0 then q_X8_readNumber_42 N Y V (z + 54) else Option.bind (q_X9_number N Y V (z + 55)) (fun r_16 => Option.bind (q_X9_step N Y (bk_wI V (z + 54) 3 r_16) (z + 55)) (fun V_20 => some (nI 1, V_20)))))) else bk_bd2 (q_X8_refuse N Y V (z + 54) (nI 1)) (fun r_24 V_25 => bk_ck (r_24 = nI 0 ∨ r_24 = nI 1) (some (r_24, V_25))) := by
    simp (disch := omega) only [q_X8_readNumber, hM, pk_ckT, pk_bs, pk_letE, pk_bd2E, pk_bd3E, if_true, if_false, eq_self, not_true_eq_false, not_false_eq_true, true_and, and_true, Nat.not_lt_zero, Nat.zero_le, Nat.reduceEqDiff, Nat.reduceLT, Nat.reduceLeDiff, pk_ck, h.2.1.2.2.2, pk_lit, nI_eq]
  rw [e0]
  by_cases c1 : tq_k T L p = 2
  · rw [if_pos c1, hsh, pk_bs]
    by_cases c2 : tq_e T L p - tq_s T L p ≤ 4
    · rw [pk_Bt c2, if_neg (show ¬ nI 1 = nI 0 by decide), pc_number hN hM h c1 c2, pk_bs, pc_isWithin, pk_bs, pk_bs]
      have hwi : (nI lo ≤ nI (tq_v T L p) ∧ nI (tq_v T L p) ≤ nI hi) = (lo ≤ tq_v T L p ∧ tq_v T L p ≤ hi) := by rw [nI_leI (by omega) (by omega), nI_leI (by omega) (by omega)]
      by_cases c3 : lo ≤ tq_v T L p ∧ tq_v T L p ≤ hi
      · have hno : tq_no T L p lo hi = 0 := by
          unfold tq_no
          rw [if_pos c1, if_pos ⟨c2, c3⟩]
        rw [hno]
        refine ⟨fun _ => ?_, fun q => absurd rfl q⟩
        obtain ⟨V', e1, e2, e3⟩ := pc_goes (N := N) (V := bk_wI V (z + 54) 3 (nI (tq_v T L p))) hN hM ⟨h.1.fN (pk_fN.wt (by omega)), h.2.1.w54, hp, by rw [pk_rI_same, if_neg (by omega)]; exact h.2.2.2⟩
        refine ⟨V', ?_, (pk_fN.wt (by omega)).tr e2.fN, ?_, e3⟩
        · rw [pk_Bt (hwi.mpr c3), if_neg (show ¬ nI 1 = nI 0 by decide), e1, pk_bs]
        · rw [show bk_rI V' (z + 54) 3 = bk_rI (bk_wI V (z + 54) 3 (nI (tq_v T L p))) (z + 54) 3 from congrFun (e2.2 (z + 54) (by omega)) 3, pk_rI_same, if_pos rfl]
      · have hno : tq_no T L p lo hi = 2 := by
          unfold tq_no
          rw [if_pos c1, if_neg (fun q => c3 q.2)]
        rw [hno]
        refine ⟨fun q => absurd q (by omega), fun _ => ?_⟩
        rw [pk_Bf (fun q => c3 (hwi.mp q)), if_pos rfl]
        exact e42
    · have hno : tq_no T L p lo hi = 2 := by
        unfold tq_no
        rw [if_pos c1, if_neg (fun q => c2 q.1)]
      rw [hno]
      refine ⟨fun q => absurd q (by omega), fun _ => ?_⟩
      rw [pk_Bf c2, if_pos rfl]
      exact e42
  · have hno : tq_no T L p lo hi = 1 := by
      unfold tq_no
      rw [if_neg c1]
    rw [if_neg c1, hno]
    refine ⟨fun q => absurd q (by omega), fun _ => ?_⟩
    obtain ⟨V', e1, e2, e3⟩ := pc_refuse8 (N := N) (k := 1) hM h
    refine ⟨V', ?_, e2, e3⟩
    rw [e1, pk_bd2E, pk_ck (Or.inl rfl)]
theorem pc_sign (hN : 1000 ≤ N) (hM : pk_Mn Y z) (h : pk_PC z V T L p) (hc : c < 128) : ((tq_k T L p = 3 ∧ T (tq_s T L p) = c) → ∃ V', q_X8_readSign N Y V (z + 54) (nI c) = some (nI 1, V') ∧ pk_fN z V V' ∧ pk_PC z V' T L (tq_e T L p)) ∧ (¬ (tq_k T L p = 3 ∧ T (tq_s T L p) = c) → ∃ V', q_X8_readSign N Y V (z + 54) (nI c) = some (nI 0, V') ∧ pk_fN z V V' ∧ pk_FC z V' 1 (tq_s T L p)) := by
  unfold q_X8_readSign
  simp only [hM, pk_ckT, pk_bs, pk_letE, pk_bd2E, pk_bd3E, if_true, if_false, eq_self, not_true_eq_false, not_false_eq_true, true_and, and_true, Nat.not_lt_zero, Nat.zero_le, Nat.reduceEqDiff, Nat.reduceLT, Nat.reduceLeDiff, pk_ck, pc_isSign hM h hc, pk_lit, pk_B0]
  constructor
  · intro q
    obtain ⟨V', e1, e2, e3⟩ := pc_goes (N := N) hN hM h
    refine ⟨V', ?_, e2.fN, e3⟩
    rw [if_neg (fun g => g q), e1, pk_bs]
  · intro q
    obtain ⟨V', e1, e2, e3⟩ := pc_refuse8 (N := N) (k := 1) hM h
    refine ⟨V', ?_, e2, e3⟩
    rw [if_pos q, e1, pk_bd2E, pk_ck (Or.inl rfl)]
end
