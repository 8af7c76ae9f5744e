/-! small methods; rules worked out -/
section
variable {N : Nat} {Y : bk_Lay} {V : bk_Val} {t r a b c d k : Nat} {x y lo hi : Int32} {D : Nat → Nat → Nat} {P : Nat → List Nat}
theorem pc_isWithin : q_X11_isWithin N Y V x lo hi = some (pk_B (lo ≤ x ∧ x ≤ hi)) := by
  unfold q_X11_isWithin pk_B
  simp only [Int32.lt_iff_toInt_lt, Int32.le_iff_toInt_le]
  split
  · rw [if_neg (by omega)]; rfl
  · split
    · rw [if_neg (by omega)]; rfl
    · rw [if_pos (by omega)]; rfl
theorem pr_within : q_X12_within N Y V x lo hi = some (pk_B (lo ≤ x ∧ x ≤ hi)) := by
  unfold q_X12_within pk_B
  simp only [Int32.lt_iff_toInt_lt, Int32.le_iff_toInt_le]
  split
  · rw [if_neg (by omega)]; rfl
  · split
    · rw [if_neg (by omega)]; rfl
    · rw [if_pos (by omega)]; rfl
theorem pc_min (ha : a < 2 ^ 31) (hb : b < 2 ^ 31) : q_J9_min_7cf53 N Y V (nI a) (nI b) = some (nI (min a b)) := by
  unfold q_J9_min_7cf53
  simp only [nI_ltI hb ha]
  split
  · rw [Nat.min_eq_right (by omega)]
  · rw [Nat.min_eq_left (by omega)]
theorem pc_max (ha : a < 2 ^ 31) (hb : b < 2 ^ 31) : q_J9_max_7cf53 N Y V (nI a) (nI b) = some (nI (max a b)) := by
  unfold q_J9_max_7cf53
  simp only [nI_ltI ha hb]
  split
  · rw [Nat.max_eq_right (by omega)]
  · rw [Nat.max_eq_left (by omega)]
theorem pk_negp : ∀ d, d < 85 → ∀ c, c < d → 0 < c → ¬ 0 ≤ (-nI c ^^^ nI d) ∧ bk_rem (-nI c) (nI d) + nI d = nI (d - c) ∧ ¬ bk_rem (-nI c) (nI d) = 0 := by decide +kernel
theorem pk_subneg (h : a < b) : nI a - nI b = -nI (b - a) := by
  have : nI b = nI a + nI (b - a) := by rw [nI_add]; congr 1; omega
  rw [this, Int32.sub_eq_add_neg, Int32.neg_add, Int32.sub_eq_add_neg, ← Int32.add_assoc, Int32.add_right_neg, Int32.zero_add]
theorem pk_xorpos (ha : a < 2 ^ 31) (hb : b < 2 ^ 31) : 0 ≤ (nI a ^^^ nI b) := by
  have e : nI a ^^^ nI b = nI (a ^^^ b) := by
    apply Int32.toBitVec_inj.1
    show BitVec.ofNat 32 a ^^^ BitVec.ofNat 32 b = BitVec.ofNat 32 (a ^^^ b)
    apply BitVec.eq_of_getLsbD_eq
    intro i hi
    simp [BitVec.getLsbD_xor, BitVec.getLsbD_ofNat, hi]
  rw [e]
  exact nI_pos' (Nat.xor_lt_two_pow ha hb)
theorem pc_fm (ha : a < 2 ^ 31) (hd : d < 85) (h0 : 0 < d) : q_J9_floorMod_7cf53 N Y V (nI a) (nI d) = some (nI (a % d)) := by
  have h1 : ¬ nI d = 0 := nI_ne0 h0 (by omega)
  unfold q_J9_floorMod_7cf53
  rw [pk_ck h1, if_pos (pk_xorpos ha (by omega)), pk_remE ha h0 (by omega)]
theorem pc_fmS (ha : a < 2 ^ 30) (hd : d < 85) (h0 : 0 < d) (hb : b < d) : q_J9_floorMod_7cf53 N Y V (nI a - nI b) (nI d) = some (nI ((a + d - b) % d)) := by
  by_cases c : b ≤ a
  · rw [pk_sub c, pc_fm (by omega) hd h0]
    congr 2
    rw [show a + d - b = a - b + d by omega, Nat.add_mod_right]
  · obtain ⟨g1, g2, g3⟩ := pk_negp d hd (b - a) (by omega) (by omega)
    have h1 : ¬ nI d = 0 := nI_ne0 h0 (by omega)
    rw [pk_subneg (by omega)]
    unfold q_J9_floorMod_7cf53
    rw [pk_ck h1, if_neg g1, if_neg g3, g2, Nat.mod_eq_of_lt (by omega)]
    congr 2
    omega
theorem pc_inches (hS : pk_Sd Y t) (hT : pk_CT V t D P) : q_X5_inches N Y V t = some (nI (D 0 0)) := by
  obtain ⟨c1, -⟩ := hT
  simp (disch := omega) only [q_X5_inches, hS, pk_ckT, pk_bs, pk_letE, pk_bd2E, pk_bd3E, if_true, if_false, eq_self, not_true_eq_false, not_false_eq_true, true_and, and_true, Nat.not_lt_zero, Nat.zero_le, Nat.reduceEqDiff, Nat.reduceLT, Nat.reduceLeDiff, pk_ck, pk_lit, nI_add, pk_mul, nI_clamp, nI_leI, nI_ltI, nI_eq, pk_div, pk_remE, pk_inE, pk_sub, c1]
theorem pc_hand (hS : pk_Sd Y t) (hT : pk_CT V t D P) : q_X5_hand N Y V t = some (nI (D 0 1)) := by
  obtain ⟨c1, -⟩ := hT
  simp (disch := omega) only [q_X5_hand, hS, pk_ckT, pk_bs, pk_letE, pk_bd2E, pk_bd3E, if_true, if_false, eq_self, not_true_eq_false, not_false_eq_true, true_and, and_true, Nat.not_lt_zero, Nat.zero_le, Nat.reduceEqDiff, Nat.reduceLT, Nat.reduceLeDiff, pk_ck, pk_lit, nI_add, pk_mul, nI_clamp, nI_leI, nI_ltI, nI_eq, pk_div, pk_remE, pk_inE, pk_sub, c1]
theorem pc_miss (hS : pk_Sd Y t) (hT : pk_CT V t D P) : q_X5_miss N Y V t = some (nI (D 0 2)) := by
  obtain ⟨c1, -⟩ := hT
  simp (disch := omega) only [q_X5_miss, hS, pk_ckT, pk_bs, pk_letE, pk_bd2E, pk_bd3E, if_true, if_false, eq_self, not_true_eq_false, not_false_eq_true, true_and, and_true, Nat.not_lt_zero, Nat.zero_le, Nat.reduceEqDiff, Nat.reduceLT, Nat.reduceLeDiff, pk_ck, pk_lit, nI_add, pk_mul, nI_clamp, nI_leI, nI_ltI, nI_eq, pk_div, pk_remE, pk_inE, pk_sub, c1]
theorem pc_mark (hS : pk_Sd Y t) (hT : pk_CT V t D P) : q_X5_mark N Y V t = some (nI (D 0 5)) := by
  obtain ⟨c1, -⟩ := hT
  simp (disch := omega) only [q_X5_mark, hS, pk_ckT, pk_bs, pk_letE, pk_bd2E, pk_bd3E, if_true, if_false, eq_self, not_true_eq_false, not_false_eq_true, true_and, and_true, Nat.not_lt_zero, Nat.zero_le, Nat.reduceEqDiff, Nat.reduceLT, Nat.reduceLeDiff, pk_ck, pk_lit, nI_add, pk_mul, nI_clamp, nI_leI, nI_ltI, nI_eq, pk_div, pk_remE, pk_inE, pk_sub, c1]
theorem pc_full (hS : pk_Sd Y t) (hT : pk_CT V t D P) : q_X5_fullPressure N Y V t = some (nI (1000 * D 0 4)) := by
  obtain ⟨c1, -⟩ := hT
  simp (disch := omega) only [q_X5_fullPressure, hS, pk_ckT, pk_bs, pk_letE, pk_bd2E, pk_bd3E, if_true, if_false, eq_self, not_true_eq_false, not_false_eq_true, true_and, and_true, Nat.not_lt_zero, Nat.zero_le, Nat.reduceEqDiff, Nat.reduceLT, Nat.reduceLeDiff, pk_ck, pk_lit, nI_add, pk_mul, nI_clamp, nI_leI, nI_ltI, nI_eq, pk_div, pk_remE, pk_inE, pk_sub, c1]
theorem pc_round (hS : pk_Sd Y t) (hT : pk_CT V t D P) (hB : pk_DB D P) (ha : a < 2 ^ 31) : q_X5_round N Y V t (nI a) = some (nI (a % D 0 0)) := by
  obtain ⟨c1, -⟩ := hT
  obtain ⟨b1, -⟩ := hB
  simp (disch := omega) only [q_X5_round, hS, pk_ckT, pk_bs, pk_letE, pk_bd2E, pk_bd3E, if_true, if_false, eq_self, not_true_eq_false, not_false_eq_true, true_and, and_true, Nat.not_lt_zero, Nat.zero_le, Nat.reduceEqDiff, Nat.reduceLT, Nat.reduceLeDiff, pk_ck, pk_lit, nI_add, pk_mul, nI_clamp, nI_leI, nI_ltI, nI_eq, pk_div, pk_remE, pk_inE, pk_sub, c1, pc_max]
  rw [Nat.max_eq_left b1.1, pc_fm ha (by omega) (by omega)]
  rfl
theorem pc_roundS (hS : pk_Sd Y t) (hT : pk_CT V t D P) (hB : pk_DB D P) (ha : a < 2 ^ 30) (hb : b < D 0 0) : q_X5_round N Y V t (nI a - nI b) = some (nI ((a + D 0 0 - b) % D 0 0)) := by
  obtain ⟨c1, -⟩ := hT
  obtain ⟨b1, -⟩ := hB
  simp (disch := omega) only [q_X5_round, hS, pk_ckT, pk_bs, pk_letE, pk_bd2E, pk_bd3E, if_true, if_false, eq_self, not_true_eq_false, not_false_eq_true, true_and, and_true, Nat.not_lt_zero, Nat.zero_le, Nat.reduceEqDiff, Nat.reduceLT, Nat.reduceLeDiff, pk_ck, pk_lit, nI_clamp, pk_inE, c1, pc_max]
  rw [Nat.max_eq_left b1.1, pc_fmS ha (by omega) (by omega) hb]
  rfl
theorem pk_addm1 (h : 0 < a) : nI a + -nI 1 = nI (a - 1) := sb_m1 h
theorem pk_neglt (h0 : 0 < a) (h : a < 2 ^ 31) : (-nI a < nI 0) = True := by
  apply eq_true
  rw [Int32.lt_iff_toInt_lt, sb_negT h]
  show -(a : Int) < 0
  omega
theorem pk_negeq (ha : a < 2 ^ 31) (hb : b < 2 ^ 31) : (-nI a = -nI b) = (a = b) := by
  apply propext
  constructor
  · intro e
    have := congrArg Int32.toInt e
    rw [sb_negT ha, sb_negT hb] at this
    omega
  · intro e; rw [e]
theorem pk_cs1 (h : a < 20000) : pk_cs a = nI a := if_pos h
theorem pk_cs2 (h : 20000 ≤ a) : pk_cs a = -nI (a - 20000) := if_neg (by omega)
theorem pc_joined (h : a < 10) (h0 : 0 < a) (h3 : a ≠ 3) : q_X4_joined N Y V (-nI a) x y = some (sp_bin a x y) := by
  have hc : a = 1 ∨ a = 2 ∨ a = 4 ∨ a = 5 ∨ a = 6 ∨ a = 7 ∨ a = 8 ∨ a = 9 := by omega
  have one : ∀ v : Int32, q_X4_oneIf N Y V v = some (pk_B (¬ v = 0)) := fun v => by
    unfold q_X4_oneIf pk_B
    by_cases e : v = 0
    · rw [if_pos e, if_neg (by simp [e])]; rfl
    · rw [if_neg e, if_pos e]; rfl
  rcases hc with rfl | rfl | rfl | rfl | rfl | rfl | rfl | rfl
  · rw [q_X4_joined, pk_letE, if_neg (by decide), if_neg (by decide), if_neg (by decide), if_neg (by decide), if_neg (by decide), if_neg (by decide), if_pos (by decide)]
    simp only [q_X4_joined_61, q_X4_joined_56, one, pk_bs, sp_bin]
    by_cases h1 : x = 0
    · by_cases h2 : y = 0
      · rw [h1, h2]; rfl
      · rw [h1]; simp only [if_true, if_neg h2]; exact congrArg some ((pk_Bt (by decide)).trans (pk_Bt (Or.inr h2)).symm)
    · simp only [if_neg h1]
      by_cases h2 : y = 0
      · exact congrArg some ((pk_Bt (by decide)).trans (pk_Bt (Or.inl h1)).symm)
      · exact congrArg some ((pk_Bt (by decide)).trans (pk_Bt (Or.inl h1)).symm)
  · rw [q_X4_joined, pk_letE, if_neg (by decide), if_neg (by decide), if_neg (by decide), if_neg (by decide), if_neg (by decide), if_pos (by decide)]
    simp only [q_X4_joined_77, q_X4_joined_78, one, pk_bs, sp_bin]
    by_cases h1 : x = 0
    · by_cases h2 : y = 0
      · rw [h1, h2]; rfl
      · rw [h1]; exact congrArg some ((pk_Bf (by decide)).trans (show nI 0 = sp_bin 2 0 y from (pk_Bf (c := ¬ (0 : Int32) = nI 0 ∧ ¬ y = nI 0) (fun q => q.1 rfl)).symm))
    · simp only [if_neg h1]
      by_cases h2 : y = 0
      · rw [h2]; exact congrArg some ((pk_Bf (by decide)).trans (pk_Bf (fun q => q.2 rfl)).symm)
      · simp only [if_neg h2]; exact congrArg some ((pk_Bt (by decide)).trans (pk_Bt ⟨h1, h2⟩).symm)
  · rw [q_X4_joined, pk_letE, if_neg (by decide), if_neg (by decide), if_neg (by decide), if_neg (by decide), if_pos (by decide)]
    simp only [q_X4_joined_92, one, pk_bs]
    by_cases h1 : y ≤ x
    · rw [if_pos h1]; exact congrArg some ((pk_Bf (by decide)).trans (pk_Bf (Int32.not_lt.mpr h1)).symm)
    · rw [if_neg h1]; exact congrArg some ((pk_Bt (by decide)).trans (pk_Bt (Int32.not_le.mp h1)).symm)
  · rw [q_X4_joined, pk_letE, if_neg (by decide), if_neg (by decide), if_neg (by decide), if_pos (by decide)]
    simp only [q_X4_joined_106, one, pk_bs]
    by_cases h1 : x = y
    · rw [if_pos h1]; exact congrArg some ((pk_Bt (by decide)).trans (pk_Bt h1).symm)
    · rw [if_neg h1]; exact congrArg some ((pk_Bf (by decide)).trans (pk_Bf h1).symm)
  · rw [q_X4_joined, pk_letE, if_neg (by decide), if_neg (by decide), if_pos (by decide)]; rfl
  · rw [q_X4_joined, pk_letE, if_neg (by decide), if_pos (by decide)]; rfl
  · rw [q_X4_joined, pk_letE, if_pos (by decide)]; rfl
  · rw [q_X4_joined, pk_letE, if_neg (by decide), if_neg (by decide), if_neg (by decide), if_neg (by decide), if_neg (by decide), if_neg (by decide), if_neg (by decide)]
    by_cases h2 : y = 0
    · rw [if_pos h2]; exact congrArg some (show _ = sp_bin 9 x y from (if_pos h2).symm)
    · rw [if_neg h2, pk_ck h2]; exact congrArg some (show _ = sp_bin 9 x y from (if_neg h2).symm)
end
