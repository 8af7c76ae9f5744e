/-! numbers and the words of programs -/
section
variable {α β γ δ : Type}
theorem pk_ckT {o : Option α} {i : Decidable True} : @bk_ck α True i o = o := if_pos trivial
theorem pk_letE (x : α) (f : α → Option β) : bk_let x f = f x := id rfl
theorem pk_bd2E (o : α) (u : β) (f : α → β → Option γ) : bk_bd2 (some (o, u)) f = f o u := id rfl
theorem pk_bd3E (o : α) (u : β) (w : γ) (f : α → β → γ → Option δ) : bk_bd3 (some (o, u, w)) f = f o u w := id rfl
theorem pk_bs (o : α) (f : α → Option β) : (some o).bind f = f o := id rfl
theorem pk_lit (n : Nat) : (OfNat.ofNat n : Int32) = nI n := id rfl
theorem pk_litL (n : Nat) : (OfNat.ofNat n : Int64) = lN n := id rfl
theorem pk_inE {a n : Nat} (h : a < 2 ^ 31) : bk_in (nI a) n ↔ a < n := by
  constructor
  · intro q
    have := q.2
    rwa [nI_clamp h] at this
  · intro q
    exact ⟨nI_pos h, by rwa [nI_clamp h]⟩
theorem pk_remE {a d : Nat} (ha : a < 2 ^ 31) (h0 : 0 < d) (hd : d < 2 ^ 31) : bk_rem (nI a) (nI d) = nI (a % d) := pk_rem ha h0 hd
theorem pk_remLE {a d : Nat} (ha : a < 2 ^ 63) (h0 : 0 < d) (hd : d < 2 ^ 63) : bk_remL (lN a) (lN d) = lN (a % d) := pk_lRem ha h0 hd
theorem pk_eqm1 {a : Nat} (h : a < 2 ^ 31) : (nI a = -nI 1) = False := by
  apply eq_false
  intro e
  have := congrArg Int32.toInt e
  rw [nI_toInt h] at this
  have h2 : (-nI 1).toInt = -1 := rfl
  omega
def pk_B (c : Prop) [Decidable c] : Int32 := if c then nI 1 else nI 0
theorem pk_B0 {c : Prop} [Decidable c] : (pk_B c = nI 0) = ¬ c := by
  unfold pk_B
  by_cases h : c
  · rw [if_pos h]; exact propext ⟨fun e => absurd e (by decide), fun e => absurd h e⟩
  · rw [if_neg h]; exact propext ⟨fun _ => h, fun _ => rfl⟩
theorem pk_B1 {c : Prop} [Decidable c] : (pk_B c = nI 1) = c := by
  unfold pk_B
  by_cases h : c
  · rw [if_pos h]; exact propext ⟨fun _ => h, fun _ => rfl⟩
  · rw [if_neg h]; exact propext ⟨fun e => absurd e (by decide), fun e => absurd e h⟩
theorem pk_Bt {c : Prop} [Decidable c] (h : c) : pk_B c = nI 1 := if_pos h
theorem pk_Bf {c : Prop} [Decidable c] (h : ¬ c) : pk_B c = nI 0 := if_neg h
/-- what a run answers -/
def pk_W (o : Option α) (P : α → Prop) : Prop := ∃ x, o = some x ∧ P x
/-! reads of writes -/
theorem pk_rI_same {V : bk_Val} {a i j : Nat} {u : Int32} : bk_rI (bk_wI V a i u) a j = if j = i then u else bk_rI V a j := by
  rw [pk_rI_wI]
  by_cases e : j = i
  · rw [if_pos ⟨rfl, e⟩, if_pos e]
  · rw [if_neg (fun q => e q.2), if_neg e]
theorem pk_rI_ne {V : bk_Val} {a b i j : Nat} {u : Int32} (h : b ≠ a) : bk_rI (bk_wI V a i u) b j = bk_rI V b j := by
  rw [pk_rI_wI, if_neg (fun q => h q.1)]
theorem pk_rL_same {V : bk_Val} {a i j : Nat} {u : Int64} : bk_rL (bk_wL V a i u) a j = if j = i then u else bk_rL V a j := by
  rw [pk_rL_wL]
  by_cases e : j = i
  · rw [if_pos ⟨rfl, e⟩, if_pos e]
  · rw [if_neg (fun q => e q.2), if_neg e]
theorem pk_rL_ne {V : bk_Val} {a b i j : Nat} {u : Int64} (h : b ≠ a) : bk_rL (bk_wL V a i u) b j = bk_rL V b j := by
  rw [pk_rL_wL, if_neg (fun q => h q.1)]
/-! sums, bits -/
def sp_sum (f : Nat → Nat) : Nat → Nat
  | 0 => 0
  | n + 1 => sp_sum f n + f n
theorem sp_sum_le {f : Nat → Nat} {m : Nat} : ∀ {n : Nat}, (∀ i, i < n → f i ≤ m) → sp_sum f n ≤ n * m
  | 0, _ => Nat.zero_le _
  | n + 1, h => by
    have := sp_sum_le (f := f) (m := m) (n := n) (fun i hi => h i (Nat.lt_succ_of_lt hi))
    have h2 := h n (Nat.lt_succ_self n)
    rw [sp_sum, Nat.succ_mul]
    omega
theorem sp_sum_congr {f g : Nat → Nat} : ∀ {n : Nat}, (∀ i, i < n → f i = g i) → sp_sum f n = sp_sum g n
  | 0, _ => rfl
  | n + 1, h => by
    rw [sp_sum, sp_sum, sp_sum_congr (fun i hi => h i (Nat.lt_succ_of_lt hi)), h n (Nat.lt_succ_self n)]
abbrev sp_bit (s h : Nat) : Prop := s / 2 ^ h % 2 = 1
theorem pk_shrE {s h : Nat} (hs : s < 2 ^ 31) (hh : h < 31) : bk_shr (nI s) (nI h) = nI (s / 2 ^ h) := by
  unfold bk_shr
  refine pk_shrN hs _ h ?_
  have : ∀ h : Nat, h < 31 → (((nI h) &&& 31).toBitVec.smod 32).toNat = h := by decide
  exact this h hh
theorem pk_and1 {s : Nat} (hs : s < 2 ^ 32) : nI s &&& nI 1 = nI (s % 2) := pk_andN hs (m := nI 1) 1 (by decide)
theorem pk_shl1 {h : Nat} (hh : h < 31) : bk_shl (nI 1) (nI h) = nI (2 ^ h) := by
  have : ∀ h : Nat, h < 31 → bk_shl (nI 1) (nI h) = nI (2 ^ h) := by decide
  exact this h hh
theorem pk_bitE {s h : Nat} (hs : s < 2 ^ 31) (hh : h < 31) : ((bk_shr (nI s) (nI h)) &&& nI 1 = nI 1) = sp_bit s h := by
  rw [pk_shrE hs hh, pk_and1 (by have := Nat.div_le_self s (2 ^ h); omega)]
  apply propext
  rw [nI_eq (by omega) (by omega)]
theorem pk_bitE0 {s h : Nat} (hs : s < 2 ^ 31) (hh : h < 31) : ((bk_shr (nI s) (nI h)) &&& nI 1 = nI 0) = ¬ sp_bit s h := by
  rw [pk_shrE hs hh, pk_and1 (by have := Nat.div_le_self s (2 ^ h); omega)]
  apply propext
  rw [nI_eq (by omega) (by omega)]
  unfold sp_bit
  omega
theorem pk_or (a b : Nat) : nI a ||| nI b = nI (a ||| b) := by
  apply Int32.toBitVec_inj.1
  show BitVec.ofNat 32 a ||| BitVec.ofNat 32 b = BitVec.ofNat 32 (a ||| b)
  apply BitVec.eq_of_getLsbD_eq
  intro i hi
  simp [BitVec.getLsbD_or, BitVec.getLsbD_ofNat, hi]
end
