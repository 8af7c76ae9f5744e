/-! causes -/
section
variable {N z t u s tl r a b c d k n j h m l p q0 md wa s' i f e gg : Nat} {Y Y' : bk_Lay} {V V' V2 W : bk_Val} {x y x1 x2 x3 x4 x5 : Int32} {w1 w2 : Int64} {D : Nat → Nat → Nat} {P : Nat → List Nat} {T T' w R : Nat → Nat} {st st' g : pk_St} {hs hs' : List pk_St} {img img' : Option (pk_St × List pk_St)} {pl : Option (Nat → Nat)} {fp r0 r1 : Int32} {A B : pk_A}
abbrev sp_mk (c i e : Nat) : Prop := (c = 0 ∧ e = 0) ∨ (c = 1 ∧ (e = 1 ∨ e = 2)) ∨ (c = 2 ∧ e = 3) ∨ (c = 3 ∧ e = 3 ∧ i = 0)
theorem pc_flank (he : e ≤ 3) : q_X5_isFlank N Y V (nI e) = some (pk_B (e = 1 ∨ e = 2)) := by
  unfold q_X5_isFlank
  simp (disch := omega) only [pk_lit, nI_eq]
  by_cases c0 : e = 0
  · rw [if_pos c0, pk_Bf (by omega)]
  · rw [if_neg c0]
    by_cases c3 : e = 3
    · rw [if_pos c3, pk_Bf (by omega)]
    · rw [if_neg c3, pk_Bt (by omega)]
theorem pc_may (hc : c < 4) (he : e ≤ 3) (hi : i < 200) : q_X5_mayMake N Y V (nI c) (nI i) (nI e) = some (pk_B (sp_mk c i e)) := by
  unfold q_X5_mayMake
  simp (disch := omega) only [pk_letE, pk_lit, nI_eq, pc_flank he, pk_bs]
  by_cases c0 : c = 0
  · rw [if_pos c0]
    by_cases q : e = 0
    · rw [if_pos q, pk_Bt (by omega)]
    · rw [if_neg q, pk_Bf (by omega)]
  · rw [if_neg c0]
    by_cases c1 : c = 1
    · rw [if_pos c1, pk_ck pk_B01]
      by_cases q : e = 1 ∨ e = 2
      · rw [pk_Bt q, pk_Bt (by omega)]
      · rw [pk_Bf q, pk_Bf (by omega)]
    · rw [if_neg c1]
      by_cases c2 : c = 2
      · rw [if_pos c2]
        by_cases q : e = 3
        · rw [if_pos q, pk_Bt (by omega)]
        · rw [if_neg q, pk_Bf (by omega)]
      · rw [if_neg c2]
        by_cases q : e = 3
        · rw [if_pos q]
          by_cases q2 : i = 0
          · rw [if_pos q2, pk_Bt (by omega)]
          · rw [if_neg q2, pk_Bf (by omega)]
        · rw [if_neg q, pk_Bf (by omega)]
theorem pr_may (hc : c < 4) (he : e ≤ 3) (hi : i < 200) : q_X12_mayMake N Y V (nI c) (nI (4 * i + e)) = some (pk_B (sp_mk c i e)) := by
  have e1 : (4 * i + e) % 4 = e := by omega
  unfold q_X12_mayMake
  simp (disch := omega) only [pk_lit, pk_remE, e1, nI_eq]
  by_cases c0 : c = 0
  · rw [if_pos c0]
    by_cases q : e = 0
    · rw [if_pos q, pk_Bt (by omega)]
    · rw [if_neg q, pk_Bf (by omega)]
  · rw [if_neg c0]
    by_cases c1 : c = 1
    · rw [if_pos c1]
      by_cases q : e = 1
      · rw [if_pos q, pk_Bt (by omega)]
      · rw [if_neg q]
        by_cases q2 : e = 2
        · rw [if_pos q2, pk_Bt (by omega)]
        · rw [if_neg q2, pk_Bf (by omega)]
    · rw [if_neg c1]
      by_cases c2 : c = 2
      · rw [if_pos c2]
        by_cases q : e = 3
        · rw [if_pos q, pk_Bt (by omega)]
        · rw [if_neg q, pk_Bf (by omega)]
      · rw [if_neg c2]
        by_cases q : 4 * i + e = 3
        · rw [if_pos q, pk_Bt (by omega)]
        · rw [if_neg q, pk_Bf (by omega)]
def sp_pl (D : Nat → Nat → Nat) (c : Nat) : Nat := if c = 1 then 2 * D 0 0 else if c = 3 then 1 else D 0 0
def sp_sh (D : Nat → Nat → Nat) (gg c : Nat) : Nat := D 1 c * gg / sp_pl D c
theorem sp_pl_in (hB : pk_DB D P) : 0 < sp_pl D c ∧ sp_pl D c ≤ 168 := by
  have b0 := hB.1
  unfold sp_pl
  split
  · omega
  · split <;> omega
theorem sp_sh_le (hB : pk_DB D P) (hc : c < 4) (hg : gg ≤ 1000000000) : D 1 c * gg ≤ 99000000000 ∧ sp_sh D gg c ≤ 99000000000 := by
  have h1 := Nat.mul_le_mul (hB.2.2.2.2.2.2.2.2.1 c hc) hg
  have h2 : D 1 c * gg / sp_pl D c ≤ D 1 c * gg := Nat.div_le_self _ _
  unfold sp_sh
  omega
theorem pc_share (hS : pk_Sd Y t) (hT : pk_CT V t D P) (hB : pk_DB D P) (hc : c < 4) (hg : gg ≤ 1000000000) : q_X5_shareOfCause N Y V t (nI c) (lN gg) = some (lN (sp_sh D gg c)) := by
  have b0 := hB.1
  have hp := sp_pl_in (c := c) hB
  have hl := sp_sh_le hB hc hg
  have c2 := hT.2.1 c hc
  have h1c : D 1 c ≤ 99 := hB.2.2.2.2.2.2.2.2.1 c hc
  have main : ∀ v, 0 < v → v ≤ 168 → q_X5_shareOfCause_27 N Y V t (nI c) (lN gg) (nI v) = some (lN (D 1 c * gg / v)) := by
    intro v hv hv2
    unfold q_X5_shareOfCause_27
    simp (disch := omega) only [hS, pk_ckT, pk_bs, pk_letE, pk_bd2E, pk_bd3E, if_true, if_false, eq_self, not_true_eq_false, not_false_eq_true, true_and, and_true, Nat.not_lt_zero, Nat.zero_le, Nat.reduceEqDiff, Nat.reduceLT, Nat.reduceLeDiff, pk_ck, nI_clamp, pk_inE, c2, pk_lit, pc_max]
    rw [Nat.max_eq_left (by omega), nI_l (by omega), nI_l (by omega), pk_ck (pk_lne0 (b := v) (by omega) (by omega)), lN_mul, pk_lDiv (by omega) (by omega) (by omega)]
  unfold q_X5_shareOfCause sp_sh sp_pl
  simp (disch := omega) only [pk_lit, nI_eq, hS, pk_ckT, pk_bs, pk_letE, pk_bd2E, pk_bd3E, if_true, if_false, eq_self, not_true_eq_false, not_false_eq_true, true_and, and_true, Nat.not_lt_zero, Nat.zero_le, Nat.reduceEqDiff, Nat.reduceLT, Nat.reduceLeDiff, pk_ck, pc_inches hS hT, pk_mul]
  by_cases c3 : c = 3
  · rw [if_pos c3, if_neg (by omega), if_pos c3]
    exact main 1 (by omega) (by omega)
  · rw [if_neg c3]
    by_cases c1 : c = 1
    · rw [if_pos c1, if_pos c1]
      exact main (2 * D 0 0) (by omega) (by omega)
    · rw [if_neg c1, if_neg c1, if_neg c3]
      exact main (D 0 0) (by omega) (by omega)
theorem pr_places (hS : pk_Rf Y r) (h1 : bk_rI V r 1 = nI (D 0 0)) (hc : c < 4) : q_X12_placesOf N Y V r (nI c) = some (nI (sp_pl D c)) := by
  unfold q_X12_placesOf sp_pl
  simp (disch := omega) only [pk_lit, nI_eq, hS, pk_ckT, pk_bs, pk_letE, pk_bd2E, pk_bd3E, if_true, if_false, eq_self, not_true_eq_false, not_false_eq_true, true_and, and_true, Nat.not_lt_zero, Nat.zero_le, Nat.reduceEqDiff, Nat.reduceLT, Nat.reduceLeDiff, pk_ck, h1, pk_mul]
  by_cases c1 : c = 1
  · rw [if_pos c1, if_pos c1]
  · rw [if_neg c1, if_neg c1]
    by_cases c3 : c = 3
    · rw [if_pos c3, if_pos c3]
    · rw [if_neg c3, if_neg c3]
theorem pk_lz (ha : a < 2 ^ 63) (hb : b < 2 ^ 63) : (lN a ≤ lN b) = (a ≤ b) := propext (pk_lLE ha hb)
end
