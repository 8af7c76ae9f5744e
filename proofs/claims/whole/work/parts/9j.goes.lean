/-! the reference's tokens -/
def tq_nv (a : Nat → Nat) : Nat → Nat
  | 0 => 0
  | n + 1 => 10 * tq_nv a n + a n
def tq_v (T : Nat → Nat) (L p : Nat) : Nat := if tq_k T L p = 2 then tq_nv (fun i => T (tq_s T L p + i) - 48) (min (tq_e T L p - tq_s T L p) 4) else 0
def tq_b (T : Nat → Nat) (L j : Nat) : Nat := if j < L then T j else 0
def pk_txR (r : Nat) (V : bk_Val) (T : Nat → Nat) (L : Nat) : Prop := (∀ j, j < L → bk_rI V (r + 6) j = nI (T j)) ∧ (∀ j, T j < 256) ∧ L ≤ 700 ∧ bk_rI V r 24 = nI L
def pk_tkR (r : Nat) (V : bk_Val) (T : Nat → Nat) (L p : Nat) : Prop := bk_rI V r 25 = nI (tq_e T L p) ∧ bk_rI V r 26 = nI (tq_k T L p) ∧ bk_rI V r 27 = nI (tq_s T L p) ∧ bk_rI V r 28 = nI (tq_e T L p - tq_s T L p) ∧ bk_rI V r 29 = nI (tq_v T L p) ∧ bk_rI V r 30 = nI (tq_b T L (tq_s T L p)) ∧ bk_rL V r 31 = lN (tq_hs T L p)
/-- what goes writes -/
def pk_frT (r : Nat) (V V' : bk_Val) : Prop := (∀ a, a ≠ r → V'.1 a = V.1 a) ∧ (∀ k, k < 25 ∨ 30 < k → V'.1 r k = V.1 r k) ∧ (∀ a, a ≠ r → V'.2 a = V.2 a) ∧ (∀ k, k ≠ 31 → V'.2 r k = V.2 r k)
section
variable {N z t u s tl r a b c d k n j h m l p q q0 md wa s' i f e gg v S L g : Nat} {Y Y' : bk_Lay} {V V' V2 W : bk_Val} {x y x1 x2 x3 x4 x5 ee : Int32} {w1 w2 : Int64} {D : Nat → Nat → Nat} {P : Nat → List Nat} {T T' w R G In : Nat → Nat} {cc : Nat → Bool}
theorem pk_frT.rf : pk_frT r V V := ⟨fun _ _ => rfl, fun _ _ => rfl, fun _ _ => rfl, fun _ _ => rfl⟩
theorem pk_frT.tr (h : pk_frT r V V') (h2 : pk_frT r V' V2) : pk_frT r V V2 := ⟨fun a q => (h2.1 a q).trans (h.1 a q), fun k q => (h2.2.1 k q).trans (h.2.1 k q), fun a q => (h2.2.2.1 a q).trans (h.2.2.1 a q), fun k q => (h2.2.2.2 k q).trans (h.2.2.2 k q)⟩
theorem pk_frT.wI (hk : 25 ≤ k ∧ k ≤ 30) : pk_frT r V (bk_wI V r k x) := ⟨fun _ q => pk_rowI q, fun j q => pk_slot (by omega), fun _ _ => rfl, fun _ _ => rfl⟩
theorem pk_frT.wL : pk_frT r V (bk_wL V r 31 w1) := ⟨fun _ _ => rfl, fun _ _ => rfl, fun _ q => pk_rowL q, fun j q => by
  show bk_rL (bk_wL V r 31 w1) r j = _
  rw [pk_rL_same, if_neg q]
  rfl⟩
theorem pk_txR.fr (h : pk_txR r V T L) (f : pk_frT r V V') : pk_txR r V' T L := ⟨fun j hj => (congrFun (f.1 (r + 6) (by omega)) j).trans (h.1 j hj), h.2.1, h.2.2.1, (f.2.1 24 (by omega)).trans h.2.2.2⟩
theorem tq_b_lt (h : ∀ j, T j < 256) : tq_b T L j < 256 := by
  unfold tq_b
  split
  · exact h j
  · omega
theorem pr_byteAt (hS : pk_Rf Y r) (hx : pk_txR r V T L) (hj : j ≤ 700) : q_X12_byteAt N Y V r (nI j) = some (nI (tq_b T L j)) := by
  have hL := hx.2.2.1
  unfold q_X12_byteAt tq_b
  simp (disch := omega) only [hS, pk_ckT, pk_bs, pk_letE, pk_bd2E, pk_bd3E, if_true, if_false, eq_self, not_true_eq_false, not_false_eq_true, true_and, and_true, Nat.not_lt_zero, Nat.zero_le, Nat.reduceEqDiff, Nat.reduceLT, Nat.reduceLeDiff, pk_ck, hx.2.2.2, nI_leI]
  by_cases c : j < L
  · rw [if_neg (by omega), if_pos c]
    have ex := hx.1 j c
    simp (disch := omega) only [pk_ckT, pk_bs, pk_letE, pk_bd2E, pk_bd3E, if_true, if_false, eq_self, not_true_eq_false, not_false_eq_true, true_and, and_true, Nat.not_lt_zero, Nat.zero_le, Nat.reduceEqDiff, Nat.reduceLT, Nat.reduceLeDiff, pk_ck, pk_lit, nI_add, pk_mul, nI_clamp, nI_leI, nI_ltI, nI_eq, pk_div, pk_remE, pk_inE, pk_sub, ex]
  · rw [if_pos (by omega), if_neg c]
    rfl
theorem pr_isLetter (hc : c < 256) : q_X12_isLetter N Y V (nI c) = some (pk_B (97 ≤ c ∧ c ≤ 122)) := by
  unfold q_X12_isLetter
  simp (disch := omega) only [pk_lit, nI_ltI]
  by_cases c1 : c < 97
  · rw [if_pos c1, pk_Bf (by omega)]
  · rw [if_neg c1]
    by_cases c2 : 122 < c
    · rw [if_pos c2, pk_Bf (by omega)]
    · rw [if_neg c2, pk_Bt (by omega)]
theorem pr_isDigit (hc : c < 256) : q_X12_isDigit N Y V (nI c) = some (pk_B (48 ≤ c ∧ c ≤ 57)) := by
  unfold q_X12_isDigit
  simp (disch := omega) only [pk_lit, nI_ltI]
  by_cases c1 : c < 48
  · rw [if_pos c1, pk_Bf (by omega)]
  · rw [if_neg c1]
    by_cases c2 : 57 < c
    · rw [if_pos c2, pk_Bf (by omega)]
    · rw [if_neg c2, pk_Bt (by omega)]
theorem tq_kd1 : tq_kd c = 1 ↔ (97 ≤ c ∧ c ≤ 122) := by
  unfold tq_kd
  by_cases q : 97 ≤ c ∧ c ≤ 122
  · rw [if_pos q]; exact ⟨fun _ => q, fun _ => rfl⟩
  · rw [if_neg q]
    constructor
    · intro h
      split at h
      · omega
      · split at h <;> omega
    · intro h; exact absurd h q
theorem tq_kd2 : tq_kd c = 2 ↔ (48 ≤ c ∧ c ≤ 57) := by
  unfold tq_kd
  by_cases q : 97 ≤ c ∧ c ≤ 122
  · rw [if_pos q]; constructor <;> intro h <;> omega
  · rw [if_neg q]
    by_cases q2 : 48 ≤ c ∧ c ≤ 57
    · rw [if_pos q2]; exact ⟨fun _ => q2, fun _ => rfl⟩
    · rw [if_neg q2]
      constructor
      · intro h
        split at h <;> omega
      · intro h; exact absurd h q2
/-- a letter put to a code -/
theorem pk_hsh (ha : a < 2 ^ 40) (hb : b < 32) : bk_shlL (lN a) 5 ||| lN b = lN (32 * a + b) := by
  unfold bk_shlL
  apply Int64.toBitVec_inj.1
  rw [Int64.toBitVec_or, Int64.toBitVec_shiftLeft]
  show (BitVec.ofNat 64 a) <<< _ ||| BitVec.ofNat 64 b = BitVec.ofNat 64 (32 * a + b)
  rw [show ((Int32.toInt64 5 &&& 63).toBitVec.smod 64) = (5 : BitVec 64) from by decide]
  apply BitVec.eq_of_toNat_eq
  rw [BitVec.toNat_or, BitVec.shiftLeft_eq', BitVec.toNat_shiftLeft, BitVec.toNat_ofNat, BitVec.toNat_ofNat, BitVec.toNat_ofNat, show (5 : BitVec 64).toNat = 5 from rfl, Nat.shiftLeft_eq, Nat.mod_eq_of_lt (show a < 2 ^ 64 by omega), Nat.mod_eq_of_lt (show b < 2 ^ 64 by omega), Nat.mod_eq_of_lt (show 32 * a + b < 2 ^ 64 by omega), Nat.mod_eq_of_lt (show a * 2 ^ 5 < 2 ^ 64 by omega)]
  have := Nat.two_pow_add_eq_or_of_lt (i := 5) hb a
  rw [Nat.mul_comm a (2 ^ 5), ← this]
theorem tq_hd_lt {a : Nat → Nat} (ha : ∀ i, i < n → a i < 32) : ∀ k, k ≤ n → tq_hd a k < 32 ^ k
  | 0, _ => by show 0 < 1; omega
  | k + 1, hk => by
    have h1 := tq_hd_lt ha k (by omega)
    have h2 := ha k (by omega)
    show 32 * tq_hd a k + a k < 32 ^ (k + 1)
    rw [Nat.pow_succ]
    omega
theorem tq_nv_lt {a : Nat → Nat} (ha : ∀ i, i < n → a i < 10) : ∀ k, k ≤ n → tq_nv a k < 10 ^ k
  | 0, _ => by show 0 < 1; omega
  | k + 1, hk => by
    have h1 := tq_nv_lt ha k (by omega)
    have h2 := ha k (by omega)
    show 10 * tq_nv a k + a k < 10 ^ (k + 1)
    rw [Nat.pow_succ]
    omega
theorem pr_g331 (hS : pk_Rf Y r) (h25 : bk_rI V r 25 = nI a) (h27 : bk_rI V r 27 = nI b) (hb : b ≤ a) : q_X12_goes_331 N Y V r = some (bk_wI V r 28 (nI (a - b))) := by
  simp (disch := omega) only [q_X12_goes_331, hS, pk_ckT, pk_bs, pk_letE, pk_bd2E, pk_bd3E, if_true, if_false, eq_self, not_true_eq_false, not_false_eq_true, true_and, and_true, Nat.not_lt_zero, Nat.zero_le, Nat.reduceEqDiff, Nat.reduceLT, Nat.reduceLeDiff, pk_ck, h25, h27, pk_sub]
theorem pr_g108 (hN : 1000 ≤ N) (hS : pk_Rf Y r) (hx : pk_txR r V T L) (hp : p ≤ L) (hk : tq_k T L p = 1) (h25 : bk_rI V r 25 = nI (tq_s T L p)) (h27 : bk_rI V r 27 = nI (tq_s T L p)) (h29 : bk_rI V r 29 = nI 0) (h30 : bk_rI V r 30 = nI (tq_b T L (tq_s T L p))) (h31 : bk_rL V r 31 = lN 0) : ∃ V', q_X12_goes_108 N Y N V r = some V' ∧ pk_frT r V V' ∧ pk_tkR r V' T L p := by
  have hL := hx.2.2.1
  obtain ⟨s1, s2, -, -⟩ := tq_s_p (T := T) hL hp
  obtain ⟨t1, t2, t3, -⟩ := tq_e_p (T := T) hL hp
  have hlt := tq_lt (T := T) hL hp hk
  have hkd : tq_kd (T (tq_s T L p)) = 1 := by
    have := t3 (by omega)
    unfold tq_k at hk
    rw [if_neg (by omega)] at hk
    exact hk
  have he : tq_e T L p = tq_r T L 1 (tq_s T L p + 1) := by
    have := t3 (by omega)
    unfold tq_e
    rw [if_neg (by omega), if_pos (Or.inl hkd), hkd]
  have hend : ¬ (97 ≤ tq_b T L (tq_e T L p) ∧ tq_b T L (tq_e T L p) ≤ 122) := by
    have := t3 (by omega)
    have h4 := (tq_r_p (T := T) (c := 1) hL (show tq_s T L p + 1 ≤ L by omega)).2.2.2
    rw [← he] at h4
    unfold tq_b
    by_cases c : tq_e T L p < L
    · rw [if_pos c]
      exact fun q => h4 ⟨c, tq_kd1.mpr q⟩
    · rw [if_neg c]
      omega
  have hA : ∀ i, i < tq_e T L p - tq_s T L p → (fun i => T (tq_s T L p + i) - 96) i < 32 := fun i hi => by
    have := hlt i hi
    show T (tq_s T L p + i) - 96 < 32
    omega
  refine loop_i (σ := bk_Val) (fun fu j V1 => ∃ V', q_X12_goes_108 N Y fu V1 r = some V' ∧ pk_frT r V V' ∧ pk_tkR r V' T L p) (fun j V1 => tq_s T L p ≤ j ∧ pk_frT r V V1 ∧ bk_rI V1 r 25 = nI j ∧ bk_rI V1 r 27 = nI (tq_s T L p) ∧ bk_rI V1 r 29 = nI 0 ∧ bk_rI V1 r 30 = nI (tq_b T L (tq_s T L p)) ∧ bk_rL V1 r 31 = lN (tq_hd (fun i => T (tq_s T L p + i) - 96) (min (j - tq_s T L p) 8))) (tq_e T L p) ?_ ?_ N (tq_s T L p) V (by omega) (by omega) ⟨Nat.le_refl _, pk_frT.rf, h25, h27, h29, h30, by rw [Nat.sub_self]; exact h31⟩
  · intro fu V1 hV
    obtain ⟨g0, g1, g2, g3, g4, g5, g6⟩ := hV
    have hb := tq_b_lt (L := L) (j := tq_e T L p) hx.2.1
    have e331 := pr_g331 (N := N) (V := bk_wI V1 r 26 (nI 1)) (a := tq_e T L p) (b := tq_s T L p) hS (by rw [pk_rI_same, if_neg (by omega)]; exact g2) (by rw [pk_rI_same, if_neg (by omega)]; exact g3) t1
    refine ⟨bk_wI (bk_wI V1 r 26 (nI 1)) r 28 (nI (tq_e T L p - tq_s T L p)), ?_, (g1.tr (pk_frT.wI (by omega))).tr (pk_frT.wI (by omega)), ?_, ?_, ?_, ?_, ?_, ?_, ?_⟩
    · rw [q_X12_goes_108]
      simp (disch := omega) only [hS, pk_ckT, pk_bs, pk_letE, pk_bd2E, pk_bd3E, if_true, if_false, eq_self, not_true_eq_false, not_false_eq_true, true_and, and_true, Nat.not_lt_zero, Nat.zero_le, Nat.reduceEqDiff, Nat.reduceLT, Nat.reduceLeDiff, pk_ck, g2, pr_byteAt hS (hx.fr g1), pr_isLetter hb, pk_lit, pk_B0]
      rw [if_pos hend]
      exact e331
    · simp (disch := omega) only [pk_rI_same, pk_rI_ne, pk_rI_wL, pk_rL_wI, pk_rL_same, pk_rL_ne, pk_ckT, pk_bs, pk_letE, pk_bd2E, pk_bd3E, if_true, if_false, eq_self, not_true_eq_false, not_false_eq_true, true_and, and_true, Nat.not_lt_zero, Nat.zero_le, Nat.reduceEqDiff, Nat.reduceLT, Nat.reduceLeDiff, pk_ck, g2]
    · simp (disch := omega) only [pk_rI_same, pk_rI_ne, pk_rI_wL, pk_rL_wI, pk_rL_same, pk_rL_ne, pk_ckT, pk_bs, pk_letE, pk_bd2E, pk_bd3E, if_true, if_false, eq_self, not_true_eq_false, not_false_eq_true, true_and, and_true, Nat.not_lt_zero, Nat.zero_le, Nat.reduceEqDiff, Nat.reduceLT, Nat.reduceLeDiff, pk_ck, hk]
    · simp (disch := omega) only [pk_rI_same, pk_rI_ne, pk_rI_wL, pk_rL_wI, pk_rL_same, pk_rL_ne, pk_ckT, pk_bs, pk_letE, pk_bd2E, pk_bd3E, if_true, if_false, eq_self, not_true_eq_false, not_false_eq_true, true_and, and_true, Nat.not_lt_zero, Nat.zero_le, Nat.reduceEqDiff, Nat.reduceLT, Nat.reduceLeDiff, pk_ck, g3]
    · simp (disch := omega) only [pk_rI_same, pk_rI_ne, pk_rI_wL, pk_rL_wI, pk_rL_same, pk_rL_ne, pk_ckT, pk_bs, pk_letE, pk_bd2E, pk_bd3E, if_true, if_false, eq_self, not_true_eq_false, not_false_eq_true, true_and, and_true, Nat.not_lt_zero, Nat.zero_le, Nat.reduceEqDiff, Nat.reduceLT, Nat.reduceLeDiff, pk_ck]
    · simp (disch := omega) only [pk_rI_same, pk_rI_ne, pk_rI_wL, pk_rL_wI, pk_rL_same, pk_rL_ne, pk_ckT, pk_bs, pk_letE, pk_bd2E, pk_bd3E, if_true, if_false, eq_self, not_true_eq_false, not_false_eq_true, true_and, and_true, Nat.not_lt_zero, Nat.zero_le, Nat.reduceEqDiff, Nat.reduceLT, Nat.reduceLeDiff, pk_ck, g4]
      unfold tq_v
      rw [if_neg (by omega)]
    · simp (disch := omega) only [pk_rI_same, pk_rI_ne, pk_rI_wL, pk_rL_wI, pk_rL_same, pk_rL_ne, pk_ckT, pk_bs, pk_letE, pk_bd2E, pk_bd3E, if_true, if_false, eq_self, not_true_eq_false, not_false_eq_true, true_and, and_true, Nat.not_lt_zero, Nat.zero_le, Nat.reduceEqDiff, Nat.reduceLT, Nat.reduceLeDiff, pk_ck, g5]
    · simp (disch := omega) only [pk_rI_same, pk_rI_ne, pk_rI_wL, pk_rL_wI, pk_rL_same, pk_rL_ne, g6]
      unfold tq_hs
      rw [if_pos hk]
  · intro fu j V1 hj hV ih
    obtain ⟨g0, g1, g2, g3, g4, g5, g6⟩ := hV
    have hlj := hlt (j - tq_s T L p) (by omega)
    rw [show tq_s T L p + (j - tq_s T L p) = j by omega] at hlj
    have hbj : tq_b T L j = T j := if_pos hlj.1
    rw [q_X12_goes_108]
    simp (disch := omega) only [hS, pk_ckT, pk_bs, pk_letE, pk_bd2E, pk_bd3E, if_true, if_false, eq_self, not_true_eq_false, not_false_eq_true, true_and, and_true, Nat.not_lt_zero, Nat.zero_le, Nat.reduceEqDiff, Nat.reduceLT, Nat.reduceLeDiff, pk_ck, g2, pr_byteAt hS (hx.fr g1), hbj, pr_isLetter (hx.2.1 j), pk_lit, pk_B0, g3, pk_sub, nI_leI]
    rw [if_neg (fun q => q hlj.2)]
    by_cases c : 8 ≤ j - tq_s T L p
    · rw [if_pos c]
      unfold q_X12_goes_159
      simp (disch := omega) only [hS, pk_ckT, pk_bs, pk_letE, pk_bd2E, pk_bd3E, if_true, if_false, eq_self, not_true_eq_false, not_false_eq_true, true_and, and_true, Nat.not_lt_zero, Nat.zero_le, Nat.reduceEqDiff, Nat.reduceLT, Nat.reduceLeDiff, pk_ck, g2, pk_lit, nI_add]
      refine ih _ ⟨by omega, g1.tr (pk_frT.wI (by omega)), by rw [pk_rI_same, if_pos rfl], by rw [pk_rI_same, if_neg (by omega)]; exact g3, by rw [pk_rI_same, if_neg (by omega)]; exact g4, by rw [pk_rI_same, if_neg (by omega)]; exact g5, ?_⟩
      rw [pk_rL_wI, g6, Nat.min_eq_right c, Nat.min_eq_right (by omega)]
    · rw [if_neg c]
      have hh : tq_hd (fun i => T (tq_s T L p + i) - 96) (j - tq_s T L p) < 2 ^ 40 := by
        have h1 := tq_hd_lt (n := tq_e T L p - tq_s T L p) hA (j - tq_s T L p) (by omega)
        have h2 : 32 ^ (j - tq_s T L p) ≤ 32 ^ 8 := Nat.pow_le_pow_right (by omega) (by omega)
        omega
      rw [Nat.min_eq_left (by omega)] at g6
      unfold q_X12_goes_159
      simp (disch := omega) only [hS, pk_ckT, pk_bs, pk_letE, pk_bd2E, pk_bd3E, if_true, if_false, eq_self, not_true_eq_false, not_false_eq_true, true_and, and_true, Nat.not_lt_zero, Nat.zero_le, Nat.reduceEqDiff, Nat.reduceLT, Nat.reduceLeDiff, pk_ck, g2, pk_lit, nI_add, pk_sub, nI_l, g6, pk_rI_same, pk_rI_ne, pk_rI_wL, pk_rL_wI, pk_rL_same, pk_rL_ne]
      rw [show bk_shlL (lN (tq_hd (fun i => T (tq_s T L p + i) - 96) (j - tq_s T L p))) (nI 5) ||| lN (T j - 96) = lN (32 * tq_hd (fun i => T (tq_s T L p + i) - 96) (j - tq_s T L p) + (T j - 96)) from pk_hsh hh (by omega)]
      refine ih _ ⟨by omega, (g1.tr pk_frT.wL).tr (pk_frT.wI (by omega)), by rw [pk_rI_same, if_pos rfl], by rw [pk_rI_same, if_neg (by omega), pk_rI_wL]; exact g3, by rw [pk_rI_same, if_neg (by omega), pk_rI_wL]; exact g4, by rw [pk_rI_same, if_neg (by omega), pk_rI_wL]; exact g5, ?_⟩
      rw [pk_rL_wI, pk_rL_same, if_pos rfl, Nat.min_eq_left (by omega), show j + 1 - tq_s T L p = (j - tq_s T L p) + 1 by omega]
      show _ = lN (32 * tq_hd (fun i => T (tq_s T L p + i) - 96) (j - tq_s T L p) + (T (tq_s T L p + (j - tq_s T L p)) - 96))
      rw [show tq_s T L p + (j - tq_s T L p) = j by omega]
end
