/-! words of the calls -/
section
variable {N z t u s tl r a b c d k n j h m : Nat} {Y Y' : bk_Lay} {V V' : bk_Val} {x y : Int32} {D : Nat → Nat → Nat} {P : Nat → List Nat} {T : Nat → Nat} {st : pk_St} {hs : List pk_St} {img : Option (pk_St × List pk_St)} {pl : Option (Nat → Nat)} {fp r0 r1 : Int32} {A : pk_A}
theorem pk_bdxL {α β : Type} {e : Nat} {f : α → Option (Nat ⊕ β)} : bk_bdx (some (.inl e)) f = some (.inl e) := rfl
theorem pk_bdxR {α β : Type} {v : α} {f : α → Option (Nat ⊕ β)} : bk_bdx (some (.inr v)) f = f v := rfl
theorem pc_needE {c : Prop} [Decidable c] : q_X11_needElement N Y V (pk_B c) = if c then some (.inr ()) else some (.inl 1) := by
  unfold q_X11_needElement
  by_cases h : c
  · rw [if_pos h, if_neg (by rw [pk_Bt h]; decide)]
  · rw [if_neg h, if_pos (by rw [pk_Bf h]; rfl)]
theorem pc_needA {c : Prop} [Decidable c] : q_X11_needArgument N Y V (pk_B c) = if c then some (.inr ()) else some (.inl 2) := by
  unfold q_X11_needArgument
  by_cases h : c
  · rw [if_pos h, if_neg (by rw [pk_Bt h]; decide)]
  · rw [if_neg h, if_pos (by rw [pk_Bf h]; rfl)]
theorem pk_out (h : x < 0 ∨ nI n ≤ x) (hn : n < 2 ^ 31) (hm : m < n) : ¬ (nI 0 ≤ x ∧ x ≤ nI m) := by
  intro q
  simp only [Int32.lt_iff_toInt_lt, Int32.le_iff_toInt_le] at h q
  rw [nI_toInt (show m < 2 ^ 31 by omega)] at q
  rw [nI_toInt hn] at h
  have e1 : (nI 0).toInt = 0 := rfl
  have e2 : (0 : Int32).toInt = 0 := rfl
  omega
theorem pk_out2 (h : x < 0 ∨ nI n ≤ x) (hn : n < 2 ^ 31) (hm : m < n) (ha : a ≤ m) : ¬ (nI a ≤ x ∧ x ≤ nI m) := by
  intro q
  simp only [Int32.lt_iff_toInt_lt, Int32.le_iff_toInt_le] at h q
  rw [nI_toInt (show m < 2 ^ 31 by omega), nI_toInt (show a < 2 ^ 31 by omega)] at q
  rw [nI_toInt hn] at h
  have e2 : (0 : Int32).toInt = 0 := rfl
  omega
theorem pk_outne (h : x < 0 ∨ nI n ≤ x) (hn : n < 2 ^ 31) (hm : m < n) : ¬ x = nI m := by
  intro q
  subst q
  rcases h with h | h
  · exact nI_pos (by omega) h
  · exact nI_ge hm hn h
theorem pk_inn (hj : j < n) (hn : n < 2 ^ 31) (e : m + 1 = n) : nI 0 ≤ nI j ∧ nI j ≤ nI m := ⟨nI_le (by omega) (by omega), nI_le (by omega) (by omega)⟩
theorem pk_JC.o (h : pk_JC z Y V t u s D P T tl st hs img pl fp r0 r1) : pk_Mn Y z ∧ pk_Sd Y t ∧ (bk_rR Y z 5 = some t ∧ bk_rR Y z 6 = some u ∧ bk_rR Y z 7 = some s) ∧ pk_CT V t D P ∧ (bk_sh Y s = (1, 5) ∧ bk_rI V s 1 = nI st.1 ∧ bk_rI V s 2 = nI st.2.1 ∧ bk_rI V s 3 = nI st.2.2.1) ∧ pk_Sd Y u := by
  obtain ⟨h1, h2, h3, h4, h5, h6, -⟩ := h
  have g := h6.hd
  refine ⟨h1.mn, ?_, h3, h4, ⟨g.2.1, g.2.2.1, g.2.2.2.1, g.2.2.2.2.1⟩, ?_⟩
  · rcases h2 with ⟨rfl, -⟩ | ⟨rfl, -⟩
    · exact h1.sd0
    · exact h1.sd1
  · rcases h2 with ⟨-, rfl⟩ | ⟨-, rfl⟩
    · exact h1.sd1
    · exact h1.sd0
theorem pk_JC.ne (h : pk_JC z Y V t u s D P T tl st hs img pl fp r0 r1) : (t = z + 10 ∧ u = z + 32) ∨ (t = z + 32 ∧ u = z + 10) := h.2.1
/-- the class's tube, written beside -/
theorem pk_CA.fr (h : pk_JC z Y V t u s D P T tl st hs img pl fp r0 r1) (f : pk_fr t V V') : pk_CA z Y V' (D, P, T, tl, st, hs, img, pl, fp, r0, r1) ∧ pk_offR z V V' := by
  have hn := h.ne
  constructor
  · exact ⟨t, u, s, h.of rfl rfl (Nat.le_refl _) (fun a _ _ q3 q4 q5 _ => f.2 a q3 q4 q5) (fun a _ _ => by rw [f.1]) (fun a _ => ⟨f.2 a (by omega) (by omega) (by omega), by rw [f.1]⟩)⟩
  · intro a q1 q2
    exact ⟨f.2 a (by omega) (by omega) (by omega), by rw [f.1]⟩
theorem pr_right {c : Prop} [Decidable c] (hS : pk_Rf Y r) (h0 : bk_rI V r 0 = nI 0) (hk : k = 1 ∨ k = 2) : q_X12_right N Y V r (pk_B c) (nI k) = some (pk_B c, if c then V else bk_wI V r 0 (nI k)) := by
  unfold q_X12_right
  simp only [hS, pk_ckT, eq_self, h0, pk_lit, if_true, pk_B0, q_X12_right_16, pk_letE]
  by_cases h : c
  · rw [if_neg (fun q => q h), if_pos h, pk_Bt h]
  · rw [if_pos h, if_neg h, pk_Bf h]
    simp only [pk_rI_same, if_true]
    rw [if_neg (by rcases hk with rfl | rfl <;> decide)]
theorem pr_isWhat {m : Nat} (hS : pk_Rf Y r) (h0 : bk_rI V r 0 = nI 0) : q_X12_isWhat N Y V r x (nI m) = some (pk_B (nI 0 ≤ x ∧ x ≤ nI m), if nI 0 ≤ x ∧ x ≤ nI m then V else bk_wI V r 0 (nI 1)) := by
  unfold q_X12_isWhat
  simp only [pr_within, hS, pk_ckT, eq_self, pk_bs, pk_lit]
  rw [pr_right hS h0 (Or.inl rfl), pk_bd2E]
  rw [pk_ck (show pk_B (nI 0 ≤ x ∧ x ≤ nI m) = nI 0 ∨ pk_B (nI 0 ≤ x ∧ x ≤ nI m) = nI 1 from by
    by_cases q : nI 0 ≤ x ∧ x ≤ nI m
    · exact Or.inr (pk_Bt q)
    · exact Or.inl (pk_Bf q))]
theorem pr_isHoleY (hS : pk_Rf Y r) (h0 : bk_rI V r 0 = nI 0) (h9 : bk_rI V r 9 = nI n) (hn : n ≤ 6) (hh : h < n) : q_X12_isHole N Y V r (nI h) = some (nI 1, V) := by
  unfold q_X12_isHole
  simp (disch := omega) only [hS, h9, pk_ckT, eq_self, pk_lit, nI_add, pk_mul, nI_clamp, nI_leI, nI_ltI, nI_eq, pk_div, pk_remE, pk_inE, pk_sub, q_X12_isHole_18]
  have e : q_X12_right N Y V r (nI 1) (nI 1) = some (nI 1, V) := pr_right (c := True) hS h0 (Or.inl rfl)
  rw [if_neg (by omega), if_neg (by omega), e, pk_bd2E, pk_ck (Or.inr rfl)]
theorem pr_isHoleN (hS : pk_Rf Y r) (h0 : bk_rI V r 0 = nI 0) (h9 : bk_rI V r 9 = nI n) (hn : n ≤ 6) (hx : x < 0 ∨ nI n ≤ x) : q_X12_isHole N Y V r x = some (nI 0, bk_wI V r 0 (nI 1)) := by
  have e : q_X12_isHole_17 N Y V r = some (nI 0, bk_wI V r 0 (nI 1)) := by
    simp only [q_X12_isHole_17, q_X12_isHole_18, hS, pk_ckT, eq_self, pk_lit]
    rw [show nI 0 = pk_B False from rfl, pr_right hS h0 (Or.inl rfl), pk_bd2E, if_neg (fun q => q), pk_ck (Or.inl rfl)]
  unfold q_X12_isHole
  by_cases c : x < 0
  · rw [if_pos c, e]
  · rw [if_neg c]
    simp only [hS, pk_ckT, eq_self, h9]
    rw [if_pos (hx.resolve_left c), e]
theorem pc_needHoleY (hS : pk_Sd Y t) (hM : pk_Mn Y z) (hz : bk_rR Y z 5 = some t) (hT : pk_CT V t D P) (hB : pk_DB D P) (hh : h < D 2 0) : q_X11_needHole N Y V z (nI h) = some (.inr ()) := by
  have b1 : D 2 0 ≤ 6 := hB.2.2.2.2.2.2.2.2.2.1
  unfold q_X11_needHole
  simp (disch := omega) only [hM, hz, hS, hT.2.2.1, pk_ckT, pk_bs, pk_letE, pk_bd2E, pk_bd3E, if_true, if_false, eq_self, not_true_eq_false, not_false_eq_true, true_and, and_true, Nat.not_lt_zero, Nat.zero_le, Nat.reduceEqDiff, Nat.reduceLT, Nat.reduceLeDiff, pk_ck, pk_lit, pk_sub, pc_isWithin, pc_needE]
  rw [if_pos (pk_inn hh (by omega) (by omega))]
  rfl
theorem pc_needHoleN (hS : pk_Sd Y t) (hM : pk_Mn Y z) (hz : bk_rR Y z 5 = some t) (hT : pk_CT V t D P) (hB : pk_DB D P) (hx : x < 0 ∨ nI (D 2 0) ≤ x) : q_X11_needHole N Y V z x = some (.inl 1) := by
  have b1 : D 2 0 ≤ 6 := hB.2.2.2.2.2.2.2.2.2.1
  unfold q_X11_needHole
  simp (disch := omega) only [hM, hz, hS, hT.2.2.1, pk_ckT, pk_bs, pk_letE, pk_bd2E, pk_bd3E, if_true, if_false, eq_self, not_true_eq_false, not_false_eq_true, true_and, and_true, Nat.not_lt_zero, Nat.zero_le, Nat.reduceEqDiff, Nat.reduceLT, Nat.reduceLeDiff, pk_ck, pk_lit, pc_isWithin, pc_needE]
  rw [if_neg]
  · rfl
  · by_cases c : D 2 0 = 0
    · rw [c]
      intro q
      have q2 := Int32.le_trans q.1 q.2
      exact absurd q2 (by decide)
    · rw [pk_sub (by omega)]
      exact pk_out hx (by omega) (by omega)
end
