/-! known words: the reference's codes, the class's words -/
def tq_H : List Nat := [632645, 631941, 446125701, 408612, 569271506501, 14276022451, 114052, 132528, 463922, 16437426, 398548, 19176724, 18733, 21249614, 366146, 20462949, 23114437, 676933, 277893, 635383, 263620, 435827, 15181413, 427595, 3560903, 3200613, 21081, 19173554, 208948, 759180, 398379, 8892563, 1476, 498, 14836]
def tq_G : List Nat := [99, 17, 20, 21, 22, 4, 23, 24, 30, 34, 0, 1, 2, 3, 5, 6, 7, 8, 32, 33, 31, 18, 9, 10, 11, 12, 19, 25, 13, 14, 15, 16, 26, 27, 28, 29]
def tq_S : List (List Nat) := [[], [116, 117, 98, 101], [104, 97, 110, 100], [109, 105, 115, 115], [110, 111, 105, 115, 101], [112, 114, 101, 115, 115, 117, 114, 101], [109, 97, 114, 107], [99, 108, 117, 110, 103], [108, 101, 97, 107], [110, 111, 116], [115, 105, 122, 101], [115, 105, 100, 101], [109, 105, 110, 117, 116, 101], [108, 111, 97, 100], [109, 105, 110, 117, 116, 101, 115], [99, 111, 108, 100], [100, 97, 109, 112], [110, 101, 97, 114], [97, 110, 100], [111, 114], [104, 111, 108, 100, 115], [104, 111, 108, 101], [111, 117, 116, 101, 114], [108, 101, 102, 116], [114, 105, 103, 104, 116], [114, 105, 109], [115, 108, 111, 119], [99, 97, 117, 115, 101], [116, 104, 111, 114, 110], [107, 101, 114, 98], [115, 112, 111, 107, 101], [118, 97, 108, 118, 101], [116, 114, 121], [114, 105, 100, 101, 114], [102, 108, 97, 116], [119, 101, 108, 108]]
def tq_hd (a : Nat → Nat) : Nat → Nat
  | 0 => 0
  | n + 1 => 32 * tq_hd a n + a n
def tq_hs (T : Nat → Nat) (L p : Nat) : Nat := if tq_k T L p = 1 then tq_hd (fun i => T (tq_s T L p + i) - 96) (min (tq_e T L p - tq_s T L p) 8) else 0
def tq_w (T : Nat → Nat) (L p : Nat) : Nat := if tq_k T L p = 1 ∧ tq_e T L p - tq_s T L p ≤ 8 then sp_wh (fun k => decide (k < 35 ∧ tq_H.getD k 0 ≠ tq_hs T L p)) 36 0 else 35
section
variable {N z t u s tl r a b c d k n j h m l p q q0 md wa s' i f e gg v S L g : Nat} {Y Y' : bk_Lay} {V V' V2 W : bk_Val} {x y x1 x2 x3 x4 x5 ee : Int32} {w1 w2 : Int64} {D : Nat → Nat → Nat} {P : Nat → List Nat} {T T' w R G In : Nat → Nat} {cc : Nat → Bool}
theorem tq_hd_inj {a b : Nat → Nat} : ∀ n m, (∀ i, i < n → 1 ≤ a i ∧ a i < 32) → (∀ i, i < m → 1 ≤ b i ∧ b i < 32) → tq_hd a n = tq_hd b m → n = m ∧ ∀ i, i < n → a i = b i
  | 0, 0, _, _, _ => ⟨rfl, fun i hi => by omega⟩
  | 0, m + 1, _, hb, h => by
    have := hb m (by omega)
    have e : tq_hd b (m + 1) = 32 * tq_hd b m + b m := rfl
    have e2 : tq_hd a 0 = 0 := rfl
    omega
  | n + 1, 0, ha, _, h => by
    have := ha n (by omega)
    have e : tq_hd a (n + 1) = 32 * tq_hd a n + a n := rfl
    have e2 : tq_hd b 0 = 0 := rfl
    omega
  | n + 1, m + 1, ha, hb, h => by
    have h1 := ha n (by omega)
    have h2 := hb m (by omega)
    have e : tq_hd a (n + 1) = 32 * tq_hd a n + a n := rfl
    have e2 : tq_hd b (m + 1) = 32 * tq_hd b m + b m := rfl
    obtain ⟨i1, i2⟩ := tq_hd_inj n m (fun i hi => ha i (by omega)) (fun i hi => hb i (by omega)) (by omega)
    refine ⟨by omega, fun i hi => ?_⟩
    by_cases c : i = n
    · have : b n = b m := by rw [i1]
      rw [c]
      omega
    · exact i2 i (by omega)
theorem tq_hd_c {a b : Nat → Nat} : ∀ n, (∀ i, i < n → a i = b i) → tq_hd a n = tq_hd b n
  | 0, _ => rfl
  | n + 1, h => by
    show 32 * tq_hd a n + a n = 32 * tq_hd b n + b n
    rw [tq_hd_c n (fun i hi => h i (by omega)), h n (by omega)]
theorem tq_SH : ∀ g, g < 36 → 0 < g → tq_G.getD g 99 < 35 ∧ tq_H.getD (tq_G.getD g 99) 0 = tq_hd (fun i => (tq_S.getD g []).getD i 0 - 96) (bk_len.getD g 0) ∧ bk_len.getD g 0 ≤ 8 ∧ 0 < bk_len.getD g 0 ∧ g < 39 := by decide +kernel
theorem tq_SL : ∀ g, g < 36 → ∀ i, i < bk_len.getD g 0 → 0 < g → 97 ≤ (tq_S.getD g []).getD i 0 ∧ (tq_S.getD g []).getD i 0 ≤ 122 ∧ bk_chr g (nI i) = nI ((tq_S.getD g []).getD i 0) := by decide +kernel
theorem tq_HI : ∀ k, k < 35 → ∀ j, j < 35 → tq_H.getD k 0 = tq_H.getD j 0 → k = j := by decide +kernel
theorem tq_w_b : tq_w T L p ≤ 35 := by
  unfold tq_w
  split
  · exact sp_wh_lt (m := 35) (fun i hi => decide_eq_false (fun q => by omega)) (by omega) 36
  · omega
/-- which known word -/
theorem tq_w_iff (hk : k < 35) : tq_w T L p = k ↔ (tq_k T L p = 1 ∧ tq_e T L p - tq_s T L p ≤ 8 ∧ tq_H.getD k 0 = tq_hs T L p) := by
  unfold tq_w
  by_cases c : tq_k T L p = 1 ∧ tq_e T L p - tq_s T L p ≤ 8
  · rw [if_pos c]
    have hb : ∀ i, 35 ≤ i → decide (i < 35 ∧ tq_H.getD i 0 ≠ tq_hs T L p) = false := fun i hi => decide_eq_false (fun q => by omega)
    have h1 := of_decide_eq_false (sp_wh_end (cc := fun k => decide (k < 35 ∧ tq_H.getD k 0 ≠ tq_hs T L p)) hb 36 0 (by omega))
    have h2 := fun i h => of_decide_eq_true (sp_wh_all (cc := fun k => decide (k < 35 ∧ tq_H.getD k 0 ≠ tq_hs T L p)) 36 0 i (by omega) h)
    constructor
    · intro e
      rw [e] at h1
      exact ⟨c.1, c.2, Classical.byContradiction (fun q => h1 ⟨hk, q⟩)⟩
    · intro e
      rcases Nat.lt_trichotomy (sp_wh (fun k => decide (k < 35 ∧ tq_H.getD k 0 ≠ tq_hs T L p)) 36 0) k with g | g | g
      · have : tq_H.getD (sp_wh (fun k => decide (k < 35 ∧ tq_H.getD k 0 ≠ tq_hs T L p)) 36 0) 0 = tq_hs T L p := Classical.byContradiction (fun q => h1 ⟨by omega, q⟩)
        exact tq_HI _ (by omega) k hk (this.trans e.2.2.symm)
      · exact g
      · exact absurd e.2.2 (h2 k g).2
  · rw [if_neg c]
    constructor
    · intro e; omega
    · intro e; exact absurd ⟨e.1, e.2.1⟩ c
/-- letters of a word -/
theorem tq_lt (hL : L ≤ 700) (hp : p ≤ L) (h : tq_k T L p = 1) : ∀ i, i < tq_e T L p - tq_s T L p → tq_s T L p + i < L ∧ 97 ≤ T (tq_s T L p + i) ∧ T (tq_s T L p + i) ≤ 122 := by
  obtain ⟨s1, s2, -, -⟩ := tq_s_p (T := T) hL hp
  have hw : tq_s T L p < L := ((tq_e_p (T := T) hL hp).2.2.1 (by omega)).1
  have hk : tq_kd (T (tq_s T L p)) = 1 := by
    unfold tq_k at h
    rw [if_neg (by omega)] at h
    exact h
  have he : tq_e T L p = tq_r T L 1 (tq_s T L p + 1) := by
    unfold tq_e
    rw [if_neg (by omega), if_pos (Or.inl hk), hk]
  have hr := (tq_r_p (T := T) (c := 1) hL (show tq_s T L p + 1 ≤ L by omega)).2.2.1
  have kl : ∀ c, tq_kd c = 1 → 97 ≤ c ∧ c ≤ 122 := fun c hc => by
    unfold tq_kd at hc
    by_cases q : 97 ≤ c ∧ c ≤ 122
    · exact q
    · rw [if_neg q] at hc
      split at hc
      · omega
      · split at hc <;> omega
  intro i hi
  by_cases c : i = 0
  · rw [c, Nat.add_zero]
    exact ⟨hw, kl _ hk⟩
  · have := hr (tq_s T L p + i) (by omega) (by omega)
    exact ⟨this.1, kl _ this.2⟩
theorem pc_isWord (hN : 1000 ≤ N) (hM : pk_Mn Y z) (hx : pk_txC z V T L) (h : pk_tkC z V T L p) (hp : p ≤ L) (hg : 0 < g ∧ g < 36) : q_X9_isWord N Y V (z + 55) g = some (pk_B (tq_w T L p = tq_G.getD g 99)) := by
  have hL := hx.2.2
  obtain ⟨h1, h2, h3, h4⟩ := h
  obtain ⟨G1, G2, G3, G4, G5⟩ := tq_SH g hg.2 hg.1
  obtain ⟨s1, s2, -, -⟩ := tq_s_p (T := T) hL hp
  obtain ⟨t1, t2, -, -⟩ := tq_e_p (T := T) hL hp
  have kb := tq_k_b (T := T) (L := L) (p := p)
  have hiff := tq_w_iff (T := T) (L := L) (p := p) G1
  unfold q_X9_isWord
  simp (disch := omega) only [hM, pk_ckT, pk_bs, pk_letE, pk_bd2E, pk_bd3E, if_true, if_false, eq_self, not_true_eq_false, not_false_eq_true, true_and, and_true, Nat.not_lt_zero, Nat.zero_le, Nat.reduceEqDiff, Nat.reduceLT, Nat.reduceLeDiff, pk_ck, pk_lit, nI_add, pk_mul, nI_clamp, nI_leI, nI_ltI, nI_eq, pk_div, pk_remE, pk_inE, pk_sub, h2, h3, h4]
  by_cases c1 : tq_k T L p = 1
  · rw [if_pos c1]
    have hlt := tq_lt (T := T) hL hp c1
    by_cases c2 : tq_e T L p - tq_s T L p = bk_len.getD g 0
    · rw [if_pos c2]
      have key : (∀ i, i < bk_len.getD g 0 → T (tq_s T L p + i) = (tq_S.getD g []).getD i 0) ↔ tq_w T L p = tq_G.getD g 99 := by
        rw [hiff, G2]
        unfold tq_hs
        rw [if_pos c1, c2, Nat.min_eq_left G3]
        constructor
        · intro q
          exact ⟨c1, G3, tq_hd_c _ (fun i hi => by show _ = T (tq_s T L p + i) - 96; rw [q i hi])⟩
        · intro q i hi
          have := (tq_hd_inj _ _ (fun i hi => by have := tq_SL g hg.2 i hi hg.1; show 1 ≤ (tq_S.getD g []).getD i 0 - 96 ∧ (tq_S.getD g []).getD i 0 - 96 < 32; omega) (fun i hi => by have := hlt i (by omega); show 1 ≤ T (tq_s T L p + i) - 96 ∧ T (tq_s T L p + i) - 96 < 32; omega) q.2.2).2 i hi
          have t1 := tq_SL g hg.2 i hi hg.1
          have t2 := hlt i (by omega)
          have t3 : (tq_S.getD g []).getD i 0 - 96 = T (tq_s T L p + i) - 96 := this
          omega
      have L1 := loop_i (σ := Unit) (fun fu i _ => ((∀ k, i ≤ k → k < bk_len.getD g 0 → T (tq_s T L p + k) = (tq_S.getD g []).getD k 0) → q_X9_isWord_28 N Y fu V (z + 55) g (nI i) = some (nI 1)) ∧ (¬ (∀ k, i ≤ k → k < bk_len.getD g 0 → T (tq_s T L p + k) = (tq_S.getD g []).getD k 0) → q_X9_isWord_28 N Y fu V (z + 55) g (nI i) = some (nI 0))) (fun _ _ => True) (bk_len.getD g 0) ?_ ?_ N 0 () (by omega) (by omega) trivial
      · by_cases c3 : tq_w T L p = tq_G.getD g 99
        · rw [pk_Bt c3]
          exact L1.1 (fun k _ hk => key.mpr c3 k hk)
        · rw [pk_Bf c3]
          exact L1.2 (fun q => c3 (key.mp (fun k hk => q k (by omega) hk)))
      · intro fu _ _
        have e1 : q_X9_isWord_28 N Y (fu + 1) V (z + 55) g (nI (bk_len.getD g 0)) = some (nI 1) := by
          rw [q_X9_isWord_28, pk_ck G5, if_pos (nI_le (by omega) (by omega))]
          rfl
        exact ⟨fun _ => e1, fun q => absurd (fun k h1 h2 => by omega) q⟩
      · intro fu i _ hi _ ih
        have ih' := ih () trivial
        have hli := hlt i (by omega)
        have ex := hx.1 (tq_s T L p + i) hli.1
        have t1 := tq_SL g hg.2 i hi hg.1
        have kq := pk_by_eq (a := (tq_S.getD g []).getD i 0) (hx.2.1 (tq_s T L p + i)) (by omega)
        have e1 : q_X9_isWord_28 N Y (fu + 1) V (z + 55) g (nI i) = if T (tq_s T L p + i) = (tq_S.getD g []).getD i 0 then q_X9_isWord_28 N Y fu V (z + 55) g (nI (i + 1)) else some (nI 0) := by
          rw [q_X9_isWord_28, pk_ck G5, if_neg (by rw [nI_leI (by omega) (by omega)]; omega)]
          simp (disch := omega) only [hM, pk_ckT, pk_bs, pk_letE, pk_bd2E, pk_bd3E, if_true, if_false, eq_self, not_true_eq_false, not_false_eq_true, true_and, and_true, Nat.not_lt_zero, Nat.zero_le, Nat.reduceEqDiff, Nat.reduceLT, Nat.reduceLeDiff, pk_ck, pk_lit, nI_add, pk_mul, nI_clamp, nI_leI, nI_ltI, nI_eq, pk_div, pk_remE, pk_inE, pk_sub, h3, ex, t1.2.2, kq, G5]
        rw [e1]
        by_cases c3 : T (tq_s T L p + i) = (tq_S.getD g []).getD i 0
        · rw [if_pos c3]
          constructor
          · intro q; exact ih'.1 (fun k h1 h2 => q k (by omega) h2)
          · intro q
            refine ih'.2 (fun q2 => q (fun k h1 h2 => ?_))
            by_cases e : k = i
            · rw [e]; exact c3
            · exact q2 k (by omega) h2
        · rw [if_neg c3]
          exact ⟨fun q => absurd (q i (Nat.le_refl i) hi) c3, fun _ => rfl⟩
    · rw [if_neg c2, pk_Bf]
      intro q
      have q1 := hiff.mp q
      rw [G2] at q1
      unfold tq_hs at q1
      rw [if_pos c1, Nat.min_eq_left q1.2.1] at q1
      have := (tq_hd_inj _ _ (fun i hi => by have := tq_SL g hg.2 i hi hg.1; show 1 ≤ (tq_S.getD g []).getD i 0 - 96 ∧ (tq_S.getD g []).getD i 0 - 96 < 32; omega) (fun i hi => by have := hlt i (by omega); show 1 ≤ T (tq_s T L p + i) - 96 ∧ T (tq_s T L p + i) - 96 < 32; omega) q1.2.2).1
      omega
  · rw [if_neg c1, pk_Bf (fun q => c1 (hiff.mp q).1)]
end
