/-! which holes leak -/
section
variable {N : Nat} {Y : bk_Lay} {V : bk_Val} {t r a b c d k v w h p m l s md z : Nat} {x y lo hi : Int32} {D : Nat → Nat → Nat} {P : Nat → List Nat}
theorem pk_b0 : bk_b x = nI (if x = 0 then 0 else 1) := by
  unfold bk_b
  split <;> rfl
theorem pk_andn : ∀ a, a < 64 → ∀ m, m < 64 → nI a &&& (nI m ^^^ -nI 1) = nI (sp_set (fun h => decide (sp_bit a h ∧ ¬ sp_bit m h)) 6) := by decide +kernel
theorem sp_lk_lt (hB : pk_DB D P) : sp_lk D md l < 64 := by
  have b1 : D 2 0 ≤ 6 := hB.2.2.2.2.2.2.2.2.2.1
  have h1 : sp_lk D md l < 2 ^ D 2 0 := sp_set_lt _
  have h2 : 2 ^ D 2 0 ≤ 2 ^ 6 := Nat.pow_le_pow_right (by decide) b1
  omega
theorem sp_set_more {f : Nat → Bool} (n : Nat) : ∀ k, (∀ h, n ≤ h → f h = false) → sp_set f (n + k) = sp_set f n
  | 0, _ => rfl
  | k + 1, hf => by
    have := sp_set_more n k hf
    show sp_set f (n + k) + (if f (n + k) then 2 ^ (n + k) else 0) = _
    rw [this, hf (n + k) (by omega)]
    rfl
theorem pc_leaking (hN : 1000 ≤ N) (m1 : bk_sh Y z = (1, 10)) (m2 : bk_rR Y z 5 = some t) (m3 : bk_rR Y z 7 = some s) (m4 : bk_sh Y s = (1, 5)) (hS : pk_Sd Y t) (hT : pk_CT V t D P) (hB : pk_DB D P) (hm : bk_rI V s 3 = nI md) (hmd : md < 64) (hl : l < 2) : q_X11_leakingHoles N Y V z (nI l) = some (nI (sp_lk D md l)) := by
  have b1 : D 2 0 ≤ 6 := hB.2.2.2.2.2.2.2.2.2.1
  have b2 := hB.2.2.2.2.2.2.2.2.2.2.1
  let f : Nat → Bool := fun h => decide (l ≠ 0 ∨ D 6 h = 0)
  have L := loop_i (σ := Int32) (fun n i u => q_X11_leakingHoles_4 N Y n V z (nI l) u (nI i) = some (nI (sp_lk D md l)))
    (fun i u => u = nI (sp_set f i)) (D 2 0) ?_ ?_ N 0 (nI 0) (by omega) (by omega) rfl
  · exact L
  · intro n u hu
    subst hu
    simp (disch := omega) only [q_X11_leakingHoles_4, m1, m2, m3, m4, hS, hT.2.2.1, hm, pk_ckT, pk_bs, pk_letE, pk_bd2E, pk_bd3E, if_true, if_false, eq_self, not_true_eq_false, not_false_eq_true, true_and, and_true, Nat.not_lt_zero, Nat.zero_le, Nat.reduceEqDiff, Nat.reduceLT, Nat.reduceLeDiff, pk_ck, pk_lit, nI_add, pk_mul, nI_clamp, nI_leI, nI_ltI, nI_eq, pk_div, pk_remE, pk_inE, pk_sub, Nat.le_refl]
    have h1 : sp_set f (D 2 0) < 2 ^ D 2 0 := sp_set_lt _
    have h2 : 2 ^ D 2 0 ≤ 2 ^ 6 := Nat.pow_le_pow_right (by decide) b1
    rw [pk_andn _ (by omega) _ hmd]
    congr 2
    unfold sp_lk
    have more := sp_set_more (f := fun h => decide (sp_bit (sp_set f (D 2 0)) h ∧ ¬ sp_bit md h)) (D 2 0) (6 - D 2 0) (fun h hh => by
      apply decide_eq_false
      intro q
      have := (sp_set_bit _ _).mp q.1
      omega)
    rw [show D 2 0 + (6 - D 2 0) = 6 by omega] at more
    rw [more]
    refine sp_set_congr (fun i hi => ?_)
    have hb : sp_bit (sp_set f (D 2 0)) i ↔ f i = true := by
      rw [sp_set_bit]
      exact ⟨fun q => q.2, fun q => ⟨hi, q⟩⟩
    apply decide_eq_decide.mpr
    rw [hb]
    show decide (l ≠ 0 ∨ D 6 i = 0) = true ∧ _ ↔ _
    rw [decide_eq_true_iff]
    exact And.comm
  · intro n i u hi hu ih
    subst hu
    obtain ⟨-, -, -, g4⟩ := hT.2.2.2.1 i hi
    have g5 := (b2 i hi).2.2.2.2
    have e3 := sp_set_or (f := f) i
    rw [q_X11_leakingHoles_4]
    simp (disch := omega) only [m1, m2, hS, hT.2.2.1, q_X1_isSlow, pk_ckT, pk_bs, pk_letE, pk_bd2E, pk_bd3E, if_true, if_false, eq_self, not_true_eq_false, not_false_eq_true, true_and, and_true, Nat.not_lt_zero, Nat.zero_le, Nat.reduceEqDiff, Nat.reduceLT, Nat.reduceLeDiff, pk_ck, pk_lit, nI_add, pk_mul, nI_clamp, nI_leI, nI_ltI, nI_eq, pk_div, pk_remE, pk_inE, pk_sub, g4]
    rw [if_neg (by omega)]
    by_cases c : l = 0
    · rw [if_pos c]
      by_cases c2 : D 6 i = 1
      · have e : f i = false := by simp [f, c, c2]
        rw [e] at e3
        simp only [if_true, if_false, Bool.false_eq_true, Nat.or_zero, eq_self] at e3
        simp only [if_pos c2, pk_bs, pk_lit, q_X11_leakingHoles_42, nI_1, nI_add]
        rw [if_neg (by decide)]
        exact ih _ (by rw [← e3])
      · have e : f i = true := by simp [f, c]; omega
        rw [e] at e3
        simp only [if_true, if_false, Bool.false_eq_true, Nat.or_zero, eq_self] at e3
        simp (disch := omega) only [if_neg c2, pk_bs, pk_lit, q_X11_leakingHoles_36, q_X11_leakingHoles_42, nI_add, pk_shl1, pk_or, if_true, eq_self]
        exact ih _ (by rw [← e3])
    · rw [if_neg c]
      have e : f i = true := by simp [f, c]
      rw [e] at e3
      simp only [if_true, if_false, Bool.false_eq_true, Nat.or_zero, eq_self] at e3
      simp (disch := omega) only [pk_lit, q_X11_leakingHoles_36, q_X11_leakingHoles_42, nI_add, pk_shl1, pk_or]
      exact ih _ (by rw [← e3])
theorem pr_isLeaking (hS : pk_Rf Y r) (hT : pk_RT V r D P) (hB : pk_DB D P) (hm : bk_rI V r 60 = nI md) (hmd : md < 64) (hl : l < 2) (hh : h < D 2 0) : q_X12_isLeaking N Y V r (nI h) (nI l) = some (pk_B (¬ sp_bit md h ∧ (l ≠ 0 ∨ D 6 h = 0))) := by
  have b1 : D 2 0 ≤ 6 := hB.2.2.2.2.2.2.2.2.2.1
  have b2 := (hB.2.2.2.2.2.2.2.2.2.2.1 h hh).2.2.2.2
  obtain ⟨g1, g2, g3, g4⟩ := hT.2.2.1 h hh
  unfold q_X12_isLeaking
  simp (disch := omega) only [hS, hm, pk_lit, pk_bitE0, pk_ckT, pk_ck, pk_lit, nI_add, pk_mul, nI_clamp, nI_leI, nI_ltI, nI_eq, pk_div, pk_remE, pk_inE, pk_sub, pk_bs, g4, eq_self]
  by_cases c : sp_bit md h
  · rw [if_neg (fun q => q c), pk_Bf (fun q => q.1 c)]
  · rw [if_pos c]
    by_cases c2 : l = 0
    · rw [if_pos c2]
      by_cases c3 : D 6 h = 0
      · rw [if_pos c3, pk_Bt ⟨c, Or.inr c3⟩]
      · rw [if_neg c3, pk_Bf (fun q => q.2.elim (fun q => q c2) c3)]
    · rw [if_neg c2, pk_Bt ⟨c, Or.inl c2⟩]
theorem pr_leakers (hN : 1000 ≤ N) (hS : pk_Rf Y r) (hT : pk_RT V r D P) (hB : pk_DB D P) (hm : bk_rI V r 60 = nI md) (hmd : md < 64) (hl : l < 2) : q_X12_leakers N Y V r (nI l) = some (nI (sp_lk D md l)) := by
  have b1 : D 2 0 ≤ 6 := hB.2.2.2.2.2.2.2.2.2.1
  let f : Nat → Bool := fun h => decide (¬ sp_bit md h ∧ (l ≠ 0 ∨ D 6 h = 0))
  have L := loop_i (σ := Int32) (fun n i u => q_X12_leakers_4 N Y n V r (nI l) u (nI i) = some (nI (sp_lk D md l)))
    (fun i u => u = nI (sp_set f i)) (D 2 0) ?_ ?_ N 0 (nI 0) (by omega) (by omega) rfl
  · exact L
  · intro n u hu
    subst hu
    simp (disch := omega) only [q_X12_leakers_4, hS, hT.1, pk_ckT, pk_bs, pk_letE, pk_bd2E, pk_bd3E, if_true, if_false, eq_self, not_true_eq_false, not_false_eq_true, true_and, and_true, Nat.not_lt_zero, Nat.zero_le, Nat.reduceEqDiff, Nat.reduceLT, Nat.reduceLeDiff, pk_ck, pk_lit, nI_add, pk_mul, nI_clamp, nI_leI, nI_ltI, nI_eq, pk_div, pk_remE, pk_inE, pk_sub, Nat.le_refl]
    rfl
  · intro n i u hi hu ih
    subst hu
    have e3 := sp_set_or (f := f) i
    rw [q_X12_leakers_4, pr_isLeaking hS hT hB hm hmd hl hi]
    simp (disch := omega) only [hS, hT.1, pk_ckT, pk_bs, pk_letE, pk_bd2E, pk_bd3E, if_true, if_false, eq_self, not_true_eq_false, not_false_eq_true, true_and, and_true, Nat.not_lt_zero, Nat.zero_le, Nat.reduceEqDiff, Nat.reduceLT, Nat.reduceLeDiff, pk_ck, pk_lit, nI_add, pk_mul, nI_clamp, nI_leI, nI_ltI, nI_eq, pk_div, pk_remE, pk_inE, pk_sub, pk_B0, pk_shl1, q_X12_leakers_29, pk_or]
    rw [if_neg (by omega)]
    by_cases c : ¬ sp_bit md i ∧ (l ≠ 0 ∨ D 6 i = 0)
    · rw [if_neg (fun q => q c)]
      rw [show f i = true from decide_eq_true c] at e3
      simp only [if_true, if_false, Bool.false_eq_true, Nat.or_zero, eq_self] at e3
      exact ih _ (by rw [← e3])
    · rw [if_pos c]
      rw [show f i = false from decide_eq_false c] at e3
      simp only [if_true, if_false, Bool.false_eq_true, Nat.or_zero, eq_self] at e3
      exact ih _ (by rw [← e3, Nat.or_zero])
end
