/-! parts of a thousand; air, line -/
section
variable {N z t u s tl r a b c d k n j h m l p q0 md wa s' i : Nat} {Y Y' : bk_Lay} {V V' V2 W : bk_Val} {x y x1 x2 x3 x4 x5 : Int32} {w1 w2 : Int64} {D : Nat → Nat → Nat} {P : Nat → List Nat} {T T' w : Nat → Nat} {st st' g : pk_St} {hs hs' : List pk_St} {img img' : Option (pk_St × List pk_St)} {pl : Option (Nat → Nat)} {fp r0 r1 : Int32} {A B : pk_A}
theorem pk_cmpG : (nI 0 < lg_cmp w1 w2) = (w2 < w1) := propext (lg_cmp_gt w1 w2)
theorem pk_cmpL : (lg_cmp w1 w2 ≤ nI 0) = (w1 ≤ w2) := propext (lg_cmp_le w1 w2)
theorem pk_cmpE : (lg_cmp w1 w2 = nI 0) = (w1 = w2) := propext (lg_cmp_eq w1 w2)
def sp_th (a b : Nat) : Nat := if b = 0 then 0 else 1000 * a / b
theorem sp_th_le (h : a ≤ b) : sp_th a b ≤ 1000 := by
  unfold sp_th
  split
  · omega
  · rename_i c
    exact Nat.div_le_of_le_mul (by rw [Nat.mul_comm b]; exact Nat.mul_le_mul_left _ h)
theorem sp_dig (hb : 0 < b) : 10 * (c / b) + 10 * (c % b) / b = 10 * c / b ∧ 10 * (c % b) % b = 10 * c % b := by
  have e : 10 * c = 10 * (c % b) + b * (10 * (c / b)) := by
    have := Nat.div_add_mod c b
    conv => lhs; rw [← this]
    rw [Nat.mul_add, Nat.mul_left_comm, Nat.add_comm]
  constructor
  · rw [e, Nat.add_mul_div_left _ _ hb, Nat.add_comm]
  · rw [e, Nat.add_mul_mod_self_left]
theorem pk_lne (hb : 0 < b) (hb2 : b < 2 ^ 63) : ¬ lN b = lN 0 := fun q => by rw [pk_lEQ hb2 (by omega)] at q; omega
def sp_G : Nat := 1000000000
theorem pk_G : (1000000000 : Int64) = lN sp_G := id rfl
theorem sp_Ge : sp_G = 1000000000 := rfl
theorem pk_lne0 (hb : 0 < b) (hb2 : b < 2 ^ 63) : ¬ lN b = 0 := pk_lne hb hb2
theorem pc_th (hN : 1000 ≤ N) (hab : a ≤ b) (hb : b ≤ 900000000000000000) : q_X11_ofThousand N Y V (lN a) (lN b) = some (nI (sp_th a b)) := by
  by_cases h0 : b = 0
  · subst h0
    unfold q_X11_ofThousand
    rw [if_neg (by decide)]
    rfl
  · have hne := pk_lne0 (b := b) (by omega) (by omega)
    have hd : ∀ c, c ≤ 1000 * b → c / b ≤ 1000 := fun c hc => Nat.div_le_of_le_mul (by rw [Nat.mul_comm]; exact hc)
    have hm : ∀ c, c % b < b := fun c => Nat.mod_lt _ (by omega)
    obtain ⟨n, hn⟩ : ∃ n, N = n + 4 := ⟨N - 4, by omega⟩
    have d1 := sp_dig (c := a) (b := b) (by omega)
    have d2 := sp_dig (c := 10 * a) (b := b) (by omega)
    have d3 := sp_dig (c := 10 * (10 * a)) (b := b) (by omega)
    have m0 := hm a
    have m1 := hm (10 * a)
    have m2 := hm (10 * (10 * a))
    have e : q_X11_ofThousand N Y V (lN a) (lN b) = q_X11_ofThousand_21 N Y (n + 4) V (lN b) (lN (a / b)) (lN (a % b)) (nI 0) := by
      unfold q_X11_ofThousand
      rw [if_pos (by rw [show (0 : Int32) = nI 0 from rfl, pk_cmpG, show (0 : Int64) = lN 0 from rfl, pk_lLT (by omega) (by omega)]; omega), pk_ck hne, pk_ck hne, pk_lDiv (by omega) (by omega) (by omega), pk_remLE (by omega) (by omega) (by omega), ← hn]
      rfl
    have step : ∀ (k i c : Nat), i < 3 → c ≤ 1000 * b → q_X11_ofThousand_21 N Y (k + 1) V (lN b) (lN (c / b)) (lN (c % b)) (nI i) = q_X11_ofThousand_21 N Y k V (lN b) (lN (10 * c / b)) (lN (10 * c % b)) (nI (i + 1)) := by
      intro k i c hi hc
      have d := sp_dig (c := c) (b := b) (by omega)
      have mm := hm c
      rw [q_X11_ofThousand_21, if_neg (show ¬ (3 : Int32) ≤ nI i from nI_ge (b := 3) (by omega) (by omega)), pk_ck hne, pk_letE, pk_ck hne]
      simp (disch := omega) only [pk_litL, lN_mul, lN_add, pk_lDiv, pk_remLE, nI_1]
      rw [Nat.mul_comm (c / b) 10, Nat.mul_comm (c % b) 10, d.1, d.2]
    rw [e, step _ 0 a (by omega) (by omega), step _ 1 (10 * a) (by omega) (by omega), step _ 2 (10 * (10 * a)) (by omega) (by omega), q_X11_ofThousand_21, if_pos (by decide), lN_i, sp_th, if_neg h0]
    congr 3
    omega
theorem pr_th (hN : 1000 ≤ N) (hab : a ≤ b) (hb : b ≤ 900000000000000000) : q_X12_thousandths N Y V (lN a) (lN b) = some (nI (sp_th a b)) := by
  by_cases h0 : b = 0
  · subst h0
    unfold q_X12_thousandths
    rw [if_pos (by decide)]
    rfl
  · have hne := pk_lne0 (b := b) (by omega) (by omega)
    have hm : ∀ c, c % b < b := fun c => Nat.mod_lt _ (by omega)
    obtain ⟨n, hn⟩ : ∃ n, N = n + 4 := ⟨N - 4, by omega⟩
    have m0 := hm a
    have e : q_X12_thousandths N Y V (lN a) (lN b) = q_X12_thousandths_22 N Y (n + 4) V (lN b) (nI (a / b)) (lN (a % b)) (nI 0) := by
      unfold q_X12_thousandths
      rw [if_neg (by rw [show (0 : Int32) = nI 0 from rfl, pk_cmpE]; exact hne), pk_ck hne, pk_ck hne, pk_lDiv (by omega) (by omega) (by omega), pk_remLE (by omega) (by omega) (by omega), lN_i, ← hn]
      rfl
    have step : ∀ (k i c : Nat), i < 3 → c ≤ 1000 * b → q_X12_thousandths_22 N Y (k + 1) V (lN b) (nI (c / b)) (lN (c % b)) (nI i) = q_X12_thousandths_22 N Y k V (lN b) (nI (10 * c / b)) (lN (10 * c % b)) (nI (i + 1)) := by
      intro k i c hi hc
      have d := sp_dig (c := c) (b := b) (by omega)
      have mm := hm c
      rw [q_X12_thousandths_22, if_neg (show ¬ (3 : Int32) ≤ nI i from nI_ge (b := 3) (by omega) (by omega)), pk_ck hne, pk_letE, pk_ck hne]
      simp (disch := omega) only [pk_litL, pk_lit, lN_mul, pk_mul, lN_i, nI_add, pk_lDiv, pk_remLE]
      rw [Nat.mul_comm (c % b) 10, d.1, d.2]
    rw [e, step _ 0 a (by omega) (by omega), step _ 1 (10 * a) (by omega) (by omega), step _ 2 (10 * (10 * a)) (by omega) (by omega), q_X12_thousandths_22, if_pos (by decide), sp_th, if_neg h0]
    congr 3
    omega
/-! air -/
def sp_hung (D : Nat → Nat → Nat) : Nat → Nat
  | 0 => D 0 6 * sp_G
  | k + 1 => sp_hung D k * D 0 7 / 100
theorem sp_hung_le (hB : pk_DB D P) : ∀ k, sp_hung D k ≤ 99000000000
  | 0 => by
    have h1 : D 0 6 * sp_G ≤ 99 * sp_G := Nat.mul_le_mul_right _ hB.2.2.2.2.2.2.1
    have := sp_Ge
    unfold sp_hung
    omega
  | k + 1 => by
    have h := sp_hung_le hB k
    have b7 := hB.2.2.2.2.2.2.2.1.2
    have := Nat.mul_le_mul h b7
    unfold sp_hung
    omega
def sp_mine (D : Nat → Nat → Nat) : Nat := (100 - D 0 6) * sp_G
theorem sp_mine_le : sp_mine D ≤ 100000000000 := by
  have h1 : sp_mine D ≤ 100 * sp_G := Nat.mul_le_mul_right _ (by omega)
  have := sp_Ge
  omega
def sp_air (D : Nat → Nat → Nat) (k : Nat) : Nat := sp_th (sp_mine D) (sp_mine D + sp_hung D k)
end
