/-! what a told tube is: D holds its numbers, P its rules -/
def pk_cs (o : Nat) : Int32 := if o < 20000 then nI o else -nI (o - 20000)
def pk_CR (V : bk_Val) (a b : Nat) (l : List Nat) : Prop := bk_rI V a 2 = nI l.length ∧ ∀ i, i < l.length → bk_rI V b i = pk_cs (l.getD i 0)
def pk_CT (V : bk_Val) (t : Nat) (D : Nat → Nat → Nat) (P : Nat → List Nat) : Prop :=
  (∀ k, k < 8 → bk_rI V (t + 1) k = nI (D 0 k)) ∧
  (∀ k, k < 4 → bk_rI V (t + 2) k = nI (D 1 k)) ∧
  bk_rI V (t + 3) 4 = nI (D 2 0) ∧
  (∀ h, h < D 2 0 → bk_rI V (t + 4) h = nI (D 3 h) ∧ bk_rI V (t + 5) h = nI (D 4 h) ∧ bk_rI V (t + 6) h = nI (D 5 h) ∧ (bk_shr (bk_rI V (t + 3) 3) (nI h)) &&& nI 1 = nI (D 6 h)) ∧
  bk_rI V (t + 7) 2 = nI (D 7 0) ∧
  (∀ k, k < D 7 0 → bk_rI V (t + 8) k = nI (D 8 k) ∧ bk_rI V (t + 9) k = nI (D 9 k)) ∧
  bk_rI V (t + 10) 4 = nI (D 10 0) ∧
  (∀ k, k < D 10 0 → bk_rI V (t + 11) k = nI (D 11 k) ∧ bk_rI V (t + 12) k = nI (D 12 k) ∧ bk_rI V (t + 13) k = nI (D 13 k) ∧ bk_rI V (t + 14) k = nI (D 14 k)) ∧
  pk_CR V (t + 15) (t + 16) (P 0) ∧ pk_CR V (t + 18) (t + 19) (P 1)
def sp_tag (j : Nat) : Nat := if j = 1 then 5 else if j = 2 then 4 else if j = 3 then 3 else j + 2
def sp_vm (w j : Nat) : Nat := if w = 0 then (if j = 2 then 4 else if j = 3 then 2 else if j = 4 then 3 else j) else (if j < 2 then j else j + 3)
/-- the reference's code of a rule from place k on -/
def pk_RC (V : bk_Val) (b w : Nat) : List Nat → Nat → Prop
  | [], k => k < 1900 ∧ bk_rI V b k = nI 0
  | o :: l, k => if o < 10000 then k + 1 < 1900 ∧ bk_rI V b k = nI 1 ∧ bk_rI V b (k + 1) = nI o ∧ pk_RC V b w l (k + 2)
    else if o < 20000 then k + 1 < 1900 ∧ bk_rI V b k = nI 2 ∧ bk_rI V b (k + 1) = nI (sp_vm w (o - 10000)) ∧ pk_RC V b w l (k + 2)
    else k < 1900 ∧ bk_rI V b k = nI (sp_tag (o - 20000)) ∧ pk_RC V b w l (k + 1)
def pk_RR (V : bk_Val) (r s w : Nat) (l : List Nat) : Prop := (l = [] ∧ bk_rI V r s = -nI 1) ∨ (l ≠ [] ∧ ∃ k, k < 1900 ∧ bk_rI V r s = nI k ∧ pk_RC V (r + 5) w l k)
def pk_RT (V : bk_Val) (r : Nat) (D : Nat → Nat → Nat) (P : Nat → List Nat) : Prop :=
  (bk_rI V r 1 = nI (D 0 0) ∧ bk_rI V r 2 = nI (D 0 1) ∧ bk_rI V r 3 = nI (D 0 2) ∧ bk_rI V r 4 = nI (D 0 3) ∧ bk_rI V r 5 = nI (D 0 4) ∧ bk_rI V r 6 = nI (D 0 5) ∧ bk_rI V r 7 = nI (D 0 6) ∧ bk_rI V r 8 = nI (D 0 7) ∧ bk_rI V r 9 = nI (D 2 0) ∧ bk_rI V r 10 = nI (D 7 0) ∧ bk_rI V r 11 = nI (D 10 0)) ∧
  (∀ k, k < 4 → bk_rI V (r + 2) k = nI (D 1 k)) ∧
  (∀ h, h < D 2 0 → bk_rI V (r + 1) (4 * h) = nI (D 3 h) ∧ bk_rI V (r + 1) (4 * h + 1) = nI (D 4 h) ∧ bk_rI V (r + 1) (4 * h + 2) = nI (D 5 h) ∧ bk_rI V (r + 1) (4 * h + 3) = nI (D 6 h)) ∧
  (∀ k, k < D 7 0 → bk_rI V (r + 3) (2 * k) = nI (D 8 k) ∧ bk_rI V (r + 3) (2 * k + 1) = nI (D 9 k)) ∧
  (∀ k, k < D 10 0 → bk_rI V (r + 4) (4 * k) = nI (D 15 k) ∧ bk_rI V (r + 4) (4 * k + 1) = nI (D 16 k) ∧ bk_rI V (r + 4) (4 * k + 2) = nI (D 13 k) ∧ bk_rI V (r + 4) (4 * k + 3) = nI (D 14 k)) ∧
  pk_RR V r 12 0 (P 0) ∧ pk_RR V r 13 1 (P 1)
/-- a rule keeps to 40 places and ends with one number; v: how many values it knows -/
def sp_ok (v : Nat) : List Nat → Nat → Prop
  | [], k => k = 1
  | o :: l, k => if o < 20000 then k < 40 ∧ (10000 ≤ o → o < 10000 + v) ∧ sp_ok v l (k + 1)
    else o < 20010 ∧ 20000 < o ∧ (if o = 20003 then 1 ≤ k ∧ sp_ok v l k else 2 ≤ k ∧ sp_ok v l (k - 1))
def pk_DB (D : Nat → Nat → Nat) (P : Nat → List Nat) : Prop :=
  (12 ≤ D 0 0 ∧ D 0 0 ≤ 84) ∧ (1 ≤ D 0 1 ∧ D 0 1 ≤ 9) ∧ (1 ≤ D 0 2 ∧ D 0 2 ≤ 99) ∧ (1 ≤ D 0 3 ∧ D 0 3 ≤ 99) ∧ (1 ≤ D 0 4 ∧ D 0 4 ≤ 100) ∧ D 0 5 < D 0 0 ∧ D 0 6 ≤ 99 ∧ (1 ≤ D 0 7 ∧ D 0 7 ≤ 99) ∧
  (∀ c, c < 4 → D 1 c ≤ 99) ∧ D 2 0 ≤ 6 ∧ (∀ h, h < D 2 0 → D 3 h < D 0 0 ∧ D 4 h ≤ 3 ∧ 1 ≤ D 5 h ∧ D 5 h ≤ 24 ∧ D 6 h ≤ 1) ∧
  D 7 0 ≤ 6 ∧ (∀ k, k < D 7 0 → 1 ≤ D 8 k ∧ D 8 k ≤ 99 ∧ 1 ≤ D 9 k ∧ D 9 k ≤ 99) ∧
  D 10 0 ≤ 8 ∧ (∀ k, k < D 10 0 → D 15 k ≤ 39 ∧ D 16 k ≤ 39 ∧ D 11 k = min (D 15 k) (D 16 k) ∧ D 12 k = max (D 15 k) (D 16 k) ∧ D 13 k ≤ 23 ∧ D 14 k ≤ 1) ∧
  (∀ w, w < 2 → (P w).length ≤ 700 ∧ (P w ≠ [] → sp_ok (5 + w) (P w) 0))
/-! the cells that a class's tube writes beside, and the reference's -/
def pk_fr (t : Nat) (V V' : bk_Val) : Prop := V'.2 = V.2 ∧ ∀ a, a ≠ t + 17 → a ≠ t + 20 → a ≠ t + 21 → V'.1 a = V.1 a
theorem pk_fr.rf {t : Nat} {V : bk_Val} : pk_fr t V V := ⟨rfl, fun _ _ _ _ => rfl⟩
theorem pk_fr.tr {t : Nat} {V V1 V2 : bk_Val} (h : pk_fr t V V1) (h2 : pk_fr t V1 V2) : pk_fr t V V2 := ⟨h2.1.trans h.1, fun a x y w => (h2.2 a x y w).trans (h.2 a x y w)⟩
theorem pk_CR.of {V V' : bk_Val} {a b : Nat} {l : List Nat} (h : pk_CR V a b l) (h1 : V'.1 a = V.1 a) (h2 : V'.1 b = V.1 b) : pk_CR V' a b l := by
  unfold pk_CR bk_rI at *
  rw [h1, h2]
  exact h
theorem pk_CT.of {V V' : bk_Val} {t : Nat} {D : Nat → Nat → Nat} {P : Nat → List Nat} (h : pk_CT V t D P) (e : ∀ a, t < a → a < t + 20 → a ≠ t + 17 → V'.1 a = V.1 a) : pk_CT V' t D P := by
  obtain ⟨c1, c2, c3, c4, c5, c6, c7, c8, c9, c10⟩ := h
  have g : ∀ a k, t < a → a < t + 20 → a ≠ t + 17 → bk_rI V' a k = bk_rI V a k := fun a k x y w => congrFun (e a x y w) k
  refine ⟨fun k hk => ?_, fun k hk => ?_, ?_, fun k hk => ?_, ?_, fun k hk => ?_, ?_, fun k hk => ?_, c9.of (e _ (by omega) (by omega) (by omega)) (e _ (by omega) (by omega) (by omega)), c10.of (e _ (by omega) (by omega) (by omega)) (e _ (by omega) (by omega) (by omega))⟩
  · rw [g _ _ (by omega) (by omega) (by omega)]; exact c1 k hk
  · rw [g _ _ (by omega) (by omega) (by omega)]; exact c2 k hk
  · rw [g _ _ (by omega) (by omega) (by omega)]; exact c3
  · rw [g (t + 4) _ (by omega) (by omega) (by omega), g (t + 5) _ (by omega) (by omega) (by omega), g (t + 6) _ (by omega) (by omega) (by omega), g (t + 3) _ (by omega) (by omega) (by omega)]; exact c4 k hk
  · rw [g _ _ (by omega) (by omega) (by omega)]; exact c5
  · rw [g (t + 8) _ (by omega) (by omega) (by omega), g (t + 9) _ (by omega) (by omega) (by omega)]; exact c6 k hk
  · rw [g _ _ (by omega) (by omega) (by omega)]; exact c7
  · rw [g (t + 11) _ (by omega) (by omega) (by omega), g (t + 12) _ (by omega) (by omega) (by omega), g (t + 13) _ (by omega) (by omega) (by omega), g (t + 14) _ (by omega) (by omega) (by omega)]; exact c8 k hk
theorem pk_CT.fr {V V' : bk_Val} {t : Nat} {D : Nat → Nat → Nat} {P : Nat → List Nat} (h : pk_CT V t D P) (e : pk_fr t V V') : pk_CT V' t D P := h.of (fun a x y w => e.2 a w (by omega) (by omega))
def pk_frR (r : Nat) (V V' : bk_Val) : Prop := (∀ a, a ≠ r → a ≠ r + 18 → a ≠ r + 19 → a ≠ r + 24 → V'.1 a = V.1 a) ∧ (∀ k, k ≠ 71 → k ≠ 72 → k ≠ 73 → k ≠ 75 → V'.1 r k = V.1 r k) ∧ (∀ a, a ≠ r + 20 → a ≠ r + 21 → a ≠ r + 23 → V'.2 a = V.2 a)
theorem pk_frR.rf {r : Nat} {V : bk_Val} : pk_frR r V V := ⟨fun _ _ _ _ _ => rfl, fun _ _ _ _ _ => rfl, fun _ _ _ _ => rfl⟩
theorem pk_frR.tr {r : Nat} {V V1 V2 : bk_Val} (h : pk_frR r V V1) (h2 : pk_frR r V1 V2) : pk_frR r V V2 := ⟨fun a x y w u => (h2.1 a x y w u).trans (h.1 a x y w u), fun k x y w u => (h2.2.1 k x y w u).trans (h.2.1 k x y w u), fun a x y w => (h2.2.2 a x y w).trans (h.2.2 a x y w)⟩
theorem pk_RC.of {V V' : bk_Val} {b w : Nat} (h1 : V'.1 b = V.1 b) : ∀ {l : List Nat} {k : Nat}, pk_RC V b w l k → pk_RC V' b w l k
  | [], k, h => by
    unfold pk_RC bk_rI at *
    rw [h1]; exact h
  | o :: l, k, h => by
    unfold pk_RC at *
    have e : ∀ j, bk_rI V' b j = bk_rI V b j := fun j => congrFun h1 j
    rw [e, e]
    split
    · rename_i c
      rw [if_pos c] at h
      exact ⟨h.1, h.2.1, h.2.2.1, pk_RC.of h1 h.2.2.2⟩
    · rename_i c
      rw [if_neg c] at h
      split
      · rename_i c
        rw [if_pos c] at h
        exact ⟨h.1, h.2.1, h.2.2.1, pk_RC.of h1 h.2.2.2⟩
      · rename_i c
        rw [if_neg c] at h
        exact ⟨h.1, h.2.1, pk_RC.of h1 h.2.2⟩
theorem pk_RR.of {V V' : bk_Val} {r s w : Nat} {l : List Nat} (h : pk_RR V r s w l) (h1 : bk_rI V' r s = bk_rI V r s) (h2 : V'.1 (r + 5) = V.1 (r + 5)) : pk_RR V' r s w l := by
  rcases h with ⟨a, b⟩ | ⟨a, k, b, c, d⟩
  · exact Or.inl ⟨a, by rw [h1]; exact b⟩
  · exact Or.inr ⟨a, k, b, by rw [h1]; exact c, d.of h2⟩
theorem pk_RT.of {V V' : bk_Val} {r : Nat} {D : Nat → Nat → Nat} {P : Nat → List Nat} (h : pk_RT V r D P) (e : ∀ a, r < a → a < r + 6 → V'.1 a = V.1 a) (e2 : ∀ k, 0 < k → k < 14 → V'.1 r k = V.1 r k) : pk_RT V' r D P := by
  obtain ⟨c1, c2, c3, c4, c5, c6, c7⟩ := h
  have g : ∀ a k, r < a → a < r + 6 → bk_rI V' a k = bk_rI V a k := fun a k x y => congrFun (e a x y) k
  have g2 : ∀ k, 0 < k → k < 14 → bk_rI V' r k = bk_rI V r k := e2
  refine ⟨?_, fun k hk => ?_, fun k hk => ?_, fun k hk => ?_, fun k hk => ?_, c6.of (g2 _ (by omega) (by omega)) (e _ (by omega) (by omega)), c7.of (g2 _ (by omega) (by omega)) (e _ (by omega) (by omega))⟩
  · rw [g2 1 (by omega) (by omega), g2 2 (by omega) (by omega), g2 3 (by omega) (by omega), g2 4 (by omega) (by omega), g2 5 (by omega) (by omega), g2 6 (by omega) (by omega), g2 7 (by omega) (by omega), g2 8 (by omega) (by omega), g2 9 (by omega) (by omega), g2 10 (by omega) (by omega), g2 11 (by omega) (by omega)]
    exact c1
  · rw [g _ _ (by omega) (by omega)]; exact c2 k hk
  · rw [g _ _ (by omega) (by omega), g _ _ (by omega) (by omega), g _ _ (by omega) (by omega), g _ _ (by omega) (by omega)]; exact c3 k hk
  · rw [g _ _ (by omega) (by omega), g _ _ (by omega) (by omega)]; exact c4 k hk
  · rw [g _ _ (by omega) (by omega), g _ _ (by omega) (by omega), g _ _ (by omega) (by omega), g _ _ (by omega) (by omega)]; exact c5 k hk
theorem pk_RT.fr {V V' : bk_Val} {r : Nat} {D : Nat → Nat → Nat} {P : Nat → List Nat} (h : pk_RT V r D P) (e : pk_frR r V V') : pk_RT V' r D P := h.of (fun a x y => e.1 a (by omega) (by omega) (by omega) (by omega)) (fun k x y => e.2.1 k (by omega) (by omega) (by omega) (by omega))
/-! rules worked out -/
def sp_bin (j : Nat) (x y : Int32) : Int32 := if j = 1 then pk_B (¬ x = nI 0 ∨ ¬ y = nI 0) else if j = 2 then pk_B (¬ x = nI 0 ∧ ¬ y = nI 0) else if j = 4 then pk_B (x < y) else if j = 5 then pk_B (x = y) else if j = 6 then x + y else if j = 7 then x - y else if j = 8 then x * y else if y = nI 0 then nI 0 else x / y
def sp_ev (e : Nat → Int32) : List Nat → (Nat → Int32) → Nat → Int32
  | [], f, _ => f 0
  | o :: l, f, k => if o < 10000 then sp_ev e l (upd f k (nI o)) (k + 1)
    else if o < 20000 then sp_ev e l (upd f k (e (o - 10000))) (k + 1)
    else if o = 20003 then sp_ev e l (upd f (k - 1) (pk_B (f (k - 1) = nI 0))) k
    else sp_ev e l (upd f (k - 2) (sp_bin (o - 20000) (f (k - 2)) (f (k - 1)))) (k - 1)
def sp_cl (v : Int32) (m : Nat) : Nat := if v < nI 0 then 0 else min v.toNatClampNeg m
theorem sp_cl_le {v : Int32} {m : Nat} : sp_cl v m ≤ m := by
  unfold sp_cl
  split
  · omega
  · omega
def sp_env (D : Nat → Nat → Nat) (h p m l : Nat) : Nat → Int32 := fun j => if j = 0 then nI (D 5 h) else if j = 1 then nI (D 4 h) else if j = 2 then nI p else if j = 3 then nI m else nI l
def sp_leak (D : Nat → Nat → Nat) (P : Nat → List Nat) (h p m l : Nat) : Nat := if P 0 = [] then D 5 h * p else sp_cl (sp_ev (sp_env D h p m l) (P 0) (fun _ => 0) 0) 50000
def sp_gone (D : Nat → Nat → Nat) (P : Nat → List Nat) (s p m l : Nat) : Nat := min (sp_sum (fun h => if sp_bit s h then sp_leak D P h (p / 1000) m l else 0) (D 2 0)) p
def sp_set (f : Nat → Bool) (n : Nat) : Nat := sp_sum (fun h => if f h then 2 ^ h else 0) n
def sp_lk (D : Nat → Nat → Nat) (md l : Nat) : Nat := sp_set (fun h => decide (¬ sp_bit md h ∧ (l ≠ 0 ∨ D 6 h = 0))) (D 2 0)
theorem sp_set_lt {f : Nat → Bool} : ∀ n, sp_set f n < 2 ^ n
  | 0 => Nat.zero_lt_one
  | n + 1 => by
    have := sp_set_lt (f := f) n
    unfold sp_set at *
    rw [sp_sum, Nat.pow_succ]
    split <;> omega
theorem sp_set_or {f : Nat → Bool} (n : Nat) : sp_set f n ||| (if f n then 2 ^ n else 0) = sp_set f (n + 1) := by
  have h := sp_set_lt (f := f) n
  show _ = sp_set f n + (if f n then 2 ^ n else 0)
  split
  · have := Nat.two_pow_add_eq_or_of_lt h 1
    rw [Nat.mul_one] at this
    rw [Nat.or_comm, ← this, Nat.add_comm]
  · rw [Nat.or_zero, Nat.add_zero]
theorem sp_set_bit {f : Nat → Bool} : ∀ n h, sp_bit (sp_set f n) h ↔ (h < n ∧ f h = true)
  | 0, h => by
    have : sp_set f 0 = 0 := rfl
    rw [this]
    unfold sp_bit
    rw [Nat.zero_div]
    omega
  | n + 1, h => by
    have ih := sp_set_bit (f := f) n h
    have hl := sp_set_lt (f := f) n
    have tb : ∀ x i : Nat, sp_bit x i ↔ x.testBit i = true := fun x i => by
      rw [Nat.testBit_eq_decide_div_mod_eq, decide_eq_true_iff]
    have e : sp_set f (n + 1) = sp_set f n + (if f n then 2 ^ n else 0) := rfl
    rw [e]
    by_cases c : f n = true
    · rw [if_pos c, Nat.add_comm, tb]
      rcases Nat.lt_trichotomy h n with g | g | g
      · rw [Nat.testBit_two_pow_add_gt g, ← tb, ih]
        exact ⟨fun q => ⟨Nat.lt_succ_of_lt q.1, q.2⟩, fun q => ⟨g, q.2⟩⟩
      · rw [g, Nat.testBit_two_pow_add_eq, Nat.testBit_lt_two_pow hl]
        exact ⟨fun _ => ⟨Nat.lt_succ_self n, c⟩, fun _ => rfl⟩
      · rw [Nat.testBit_lt_two_pow (Nat.lt_of_lt_of_le (show 2 ^ n + sp_set f n < 2 ^ (n + 1) by rw [Nat.pow_succ]; omega) (Nat.pow_le_pow_right (by decide) g))]
        constructor
        · intro q; cases q
        · intro q; omega
    · rw [if_neg c, Nat.add_zero, ih]
      constructor
      · intro q; exact ⟨Nat.lt_succ_of_lt q.1, q.2⟩
      · intro q
        refine ⟨?_, q.2⟩
        rcases Nat.lt_or_ge h n with g | g
        · exact g
        · have : h = n := by omega
          rw [this] at q
          exact absurd q.2 c
theorem sp_set_congr {f g : Nat → Bool} {n : Nat} (h : ∀ i, i < n → f i = g i) : sp_set f n = sp_set g n := sp_sum_congr (fun i hi => by rw [h i hi])
