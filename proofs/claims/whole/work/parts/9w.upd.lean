/-! what is told, written down: class, reference, bounds -/
def tq_D (D : Nat → Nat → Nat) (a k v : Nat) : Nat → Nat → Nat := fun i j => if i = a ∧ j = k then v else D i j
/-- one more hole, trial, rider: c its count, lo .. hi its numbers -/
def tq_Da (D : Nat → Nat → Nat) (c lo hi : Nat) (F : Nat → Nat) : Nat → Nat → Nat := fun i j => if i = c then (if j = 0 then D c 0 + 1 else D c j) else if j = D c 0 ∧ lo ≤ i ∧ i ≤ hi then F i else D i j
def pk_g1 (V : bk_Val) (t : Nat) (D : Nat → Nat → Nat) : Prop := ∀ k, k < 8 → bk_rI V (t + 1) k = nI (D 0 k)
def pk_g2 (V : bk_Val) (t : Nat) (D : Nat → Nat → Nat) : Prop := ∀ k, k < 4 → bk_rI V (t + 2) k = nI (D 1 k)
def pk_g3 (V : bk_Val) (t : Nat) (D : Nat → Nat → Nat) : Prop := bk_rI V (t + 3) 4 = nI (D 2 0) ∧ ∀ h, h < D 2 0 → bk_rI V (t + 4) h = nI (D 3 h) ∧ bk_rI V (t + 5) h = nI (D 4 h) ∧ bk_rI V (t + 6) h = nI (D 5 h) ∧ (bk_shr (bk_rI V (t + 3) 3) (nI h)) &&& nI 1 = nI (D 6 h)
def pk_g5 (V : bk_Val) (t : Nat) (D : Nat → Nat → Nat) : Prop := bk_rI V (t + 7) 2 = nI (D 7 0) ∧ ∀ k, k < D 7 0 → bk_rI V (t + 8) k = nI (D 8 k) ∧ bk_rI V (t + 9) k = nI (D 9 k)
def pk_g7 (V : bk_Val) (t : Nat) (D : Nat → Nat → Nat) : Prop := bk_rI V (t + 10) 4 = nI (D 10 0) ∧ ∀ k, k < D 10 0 → bk_rI V (t + 11) k = nI (D 11 k) ∧ bk_rI V (t + 12) k = nI (D 12 k) ∧ bk_rI V (t + 13) k = nI (D 13 k) ∧ bk_rI V (t + 14) k = nI (D 14 k)
def pk_g9 (V : bk_Val) (t : Nat) (P : Nat → List Nat) : Prop := pk_CR V (t + 15) (t + 16) (P 0) ∧ pk_CR V (t + 18) (t + 19) (P 1)
def pk_n1 (V : bk_Val) (r : Nat) (D : Nat → Nat → Nat) : Prop := ∀ k, k < 8 → bk_rI V r (32 + k) = nI (D 0 k)
def pk_n2 (V : bk_Val) (r : Nat) (D : Nat → Nat → Nat) : Prop := ∀ k, k < 4 → bk_rI V (r + 9) k = nI (D 1 k)
def pk_n3 (V : bk_Val) (r : Nat) (D : Nat → Nat → Nat) : Prop := bk_rI V r 40 = nI (D 2 0) ∧ ∀ h, h < D 2 0 → bk_rI V (r + 8) (4 * h) = nI (D 3 h) ∧ bk_rI V (r + 8) (4 * h + 1) = nI (D 4 h) ∧ bk_rI V (r + 8) (4 * h + 2) = nI (D 5 h) ∧ bk_rI V (r + 8) (4 * h + 3) = nI (D 6 h)
def pk_n5 (V : bk_Val) (r : Nat) (D : Nat → Nat → Nat) : Prop := bk_rI V r 41 = nI (D 7 0) ∧ ∀ k, k < D 7 0 → bk_rI V (r + 10) (2 * k) = nI (D 8 k) ∧ bk_rI V (r + 10) (2 * k + 1) = nI (D 9 k)
def pk_n7 (V : bk_Val) (r : Nat) (D : Nat → Nat → Nat) : Prop := bk_rI V r 42 = nI (D 10 0) ∧ ∀ k, k < D 10 0 → bk_rI V (r + 11) (4 * k) = nI (D 15 k) ∧ bk_rI V (r + 11) (4 * k + 1) = nI (D 16 k) ∧ bk_rI V (r + 11) (4 * k + 2) = nI (D 13 k) ∧ bk_rI V (r + 11) (4 * k + 3) = nI (D 14 k)
def pk_d0 (D : Nat → Nat → Nat) : Prop := (12 ≤ D 0 0 ∧ D 0 0 ≤ 84) ∧ (1 ≤ D 0 1 ∧ D 0 1 ≤ 9) ∧ (1 ≤ D 0 2 ∧ D 0 2 ≤ 99) ∧ (1 ≤ D 0 3 ∧ D 0 3 ≤ 99) ∧ (1 ≤ D 0 4 ∧ D 0 4 ≤ 100) ∧ D 0 5 < D 0 0 ∧ D 0 6 ≤ 99 ∧ (1 ≤ D 0 7 ∧ D 0 7 ≤ 99)
def pk_d1 (D : Nat → Nat → Nat) : Prop := ∀ c, c < 4 → D 1 c ≤ 99
def pk_d2 (D : Nat → Nat → Nat) : Prop := D 2 0 ≤ 6 ∧ ∀ h, h < D 2 0 → D 3 h < D 0 0 ∧ D 4 h ≤ 3 ∧ 1 ≤ D 5 h ∧ D 5 h ≤ 24 ∧ D 6 h ≤ 1
def pk_d7 (D : Nat → Nat → Nat) : Prop := D 7 0 ≤ 6 ∧ ∀ k, k < D 7 0 → 1 ≤ D 8 k ∧ D 8 k ≤ 99 ∧ 1 ≤ D 9 k ∧ D 9 k ≤ 99
def pk_d10 (D : Nat → Nat → Nat) : Prop := D 10 0 ≤ 8 ∧ ∀ k, k < D 10 0 → D 15 k ≤ 39 ∧ D 16 k ≤ 39 ∧ D 11 k = min (D 15 k) (D 16 k) ∧ D 12 k = max (D 15 k) (D 16 k) ∧ D 13 k ≤ 23 ∧ D 14 k ≤ 1
def pk_dP (P : Nat → List Nat) : Prop := ∀ w, w < 2 → (P w).length ≤ 700 ∧ (P w ≠ [] → sp_ok (5 + w) (P w) 0)
section
variable {N z t u s tl r a b c d k n j h m l p q q0 md wa s' i f e gg v S L g lo hi w : Nat} {Y Y' : bk_Lay} {V V' V2 : bk_Val} {x y x1 x2 x3 x4 x5 ee : Int32} {T T' R G In F : Nat → Nat} {D D' : Nat → Nat → Nat} {P P' : Nat → List Nat} {B B' : Nat → Bool} {K : List Nat}
theorem pk_CT_iff : pk_CT V t D P ↔ (pk_g1 V t D ∧ pk_g2 V t D ∧ pk_g3 V t D ∧ pk_g5 V t D ∧ pk_g7 V t D ∧ pk_g9 V t P) := ⟨fun ⟨a1, a2, a3, a4, a5, a6, a7, a8, a9, a10⟩ => ⟨a1, a2, ⟨a3, a4⟩, ⟨a5, a6⟩, ⟨a7, a8⟩, ⟨a9, a10⟩⟩, fun ⟨a1, a2, ⟨a3, a4⟩, ⟨a5, a6⟩, ⟨a7, a8⟩, ⟨a9, a10⟩⟩ => ⟨a1, a2, a3, a4, a5, a6, a7, a8, a9, a10⟩⟩
theorem pk_NT_iff : pk_NT V r D ↔ (pk_n1 V r D ∧ pk_n2 V r D ∧ pk_n3 V r D ∧ pk_n5 V r D ∧ pk_n7 V r D) := ⟨fun ⟨a1, ⟨a2, a3, a4⟩, a5, a6, a7, a8⟩ => ⟨a1, a5, ⟨a2, a6⟩, ⟨a3, a7⟩, ⟨a4, a8⟩⟩, fun ⟨a1, a5, ⟨a2, a6⟩, ⟨a3, a7⟩, ⟨a4, a8⟩⟩ => ⟨a1, ⟨a2, a3, a4⟩, a5, a6, a7, a8⟩⟩
theorem pk_DB_iff : pk_DB D P ↔ (pk_d0 D ∧ pk_d1 D ∧ pk_d2 D ∧ pk_d7 D ∧ pk_d10 D ∧ pk_dP P) := ⟨fun ⟨a1, a2, a3, a4, a5, a6, a7, a8, b1, b2, b3, b4, b5, b6, b7, b8⟩ => ⟨⟨a1, a2, a3, a4, a5, a6, a7, a8⟩, b1, ⟨b2, b3⟩, ⟨b4, b5⟩, ⟨b6, b7⟩, b8⟩, fun ⟨⟨a1, a2, a3, a4, a5, a6, a7, a8⟩, b1, ⟨b2, b3⟩, ⟨b4, b5⟩, ⟨b6, b7⟩, b8⟩ => ⟨a1, a2, a3, a4, a5, a6, a7, a8, b1, b2, b3, b4, b5, b6, b7, b8⟩⟩
theorem pk_g1.cg (h : pk_g1 V t D) (f : V'.1 (t + 1) = V.1 (t + 1)) (e : ∀ j, D' 0 j = D 0 j) : pk_g1 V' t D' := fun k hk => by rw [e]; exact (congrFun f k).trans (h k hk)
theorem pk_g2.cg (h : pk_g2 V t D) (f : V'.1 (t + 2) = V.1 (t + 2)) (e : ∀ j, D' 1 j = D 1 j) : pk_g2 V' t D' := fun k hk => by rw [e]; exact (congrFun f k).trans (h k hk)
theorem pk_g3.cg (h : pk_g3 V t D) (f : ∀ a, t + 3 ≤ a → a ≤ t + 6 → V'.1 a = V.1 a) (e : ∀ i j, 2 ≤ i → i ≤ 6 → D' i j = D i j) : pk_g3 V' t D' := by
  have g : ∀ a j, t + 3 ≤ a → a ≤ t + 6 → bk_rI V' a j = bk_rI V a j := fun a j q1 q2 => congrFun (f a q1 q2) j
  refine ⟨by rw [e _ _ (by omega) (by omega), g _ _ (by omega) (by omega)]; exact h.1, fun k hk => ?_⟩
  rw [e _ _ (by omega) (by omega)] at hk
  rw [e _ _ (by omega) (by omega), e _ _ (by omega) (by omega), e _ _ (by omega) (by omega), e _ _ (by omega) (by omega), g _ _ (by omega) (by omega), g _ _ (by omega) (by omega), g _ _ (by omega) (by omega), g _ _ (by omega) (by omega)]
  exact h.2 k hk
theorem pk_g5.cg (h : pk_g5 V t D) (f : ∀ a, t + 7 ≤ a → a ≤ t + 9 → V'.1 a = V.1 a) (e : ∀ i j, 7 ≤ i → i ≤ 9 → D' i j = D i j) : pk_g5 V' t D' := by
  have g : ∀ a j, t + 7 ≤ a → a ≤ t + 9 → bk_rI V' a j = bk_rI V a j := fun a j q1 q2 => congrFun (f a q1 q2) j
  refine ⟨by rw [e _ _ (by omega) (by omega), g _ _ (by omega) (by omega)]; exact h.1, fun k hk => ?_⟩
  rw [e _ _ (by omega) (by omega)] at hk
  rw [e _ _ (by omega) (by omega), e _ _ (by omega) (by omega), g _ _ (by omega) (by omega), g _ _ (by omega) (by omega)]
  exact h.2 k hk
theorem pk_g7.cg (h : pk_g7 V t D) (f : ∀ a, t + 10 ≤ a → a ≤ t + 14 → V'.1 a = V.1 a) (e : ∀ i j, 10 ≤ i → i ≤ 16 → D' i j = D i j) : pk_g7 V' t D' := by
  have g : ∀ a j, t + 10 ≤ a → a ≤ t + 14 → bk_rI V' a j = bk_rI V a j := fun a j q1 q2 => congrFun (f a q1 q2) j
  refine ⟨by rw [e _ _ (by omega) (by omega), g _ _ (by omega) (by omega)]; exact h.1, fun k hk => ?_⟩
  rw [e _ _ (by omega) (by omega)] at hk
  rw [e _ _ (by omega) (by omega), e _ _ (by omega) (by omega), e _ _ (by omega) (by omega), e _ _ (by omega) (by omega), g _ _ (by omega) (by omega), g _ _ (by omega) (by omega), g _ _ (by omega) (by omega), g _ _ (by omega) (by omega)]
  exact h.2 k hk
theorem pk_g9.cg (h : pk_g9 V t P) (f : ∀ a, t + 15 ≤ a → a ≤ t + 19 → a ≠ t + 17 → V'.1 a = V.1 a) : pk_g9 V' t P := ⟨h.1.of (f _ (by omega) (by omega) (by omega)) (f _ (by omega) (by omega) (by omega)), h.2.of (f _ (by omega) (by omega) (by omega)) (f _ (by omega) (by omega) (by omega))⟩
theorem pk_n1.cg (h : pk_n1 V r D) (f : ∀ k, 32 ≤ k → k < 40 → bk_rI V' r k = bk_rI V r k) (e : ∀ j, D' 0 j = D 0 j) : pk_n1 V' r D' := fun k hk => by rw [e, f _ (by omega) (by omega)]; exact h k hk
theorem pk_n2.cg (h : pk_n2 V r D) (f : V'.1 (r + 9) = V.1 (r + 9)) (e : ∀ j, D' 1 j = D 1 j) : pk_n2 V' r D' := fun k hk => by rw [e]; exact (congrFun f k).trans (h k hk)
theorem pk_n3.cg (h : pk_n3 V r D) (f : V'.1 (r + 8) = V.1 (r + 8)) (f2 : bk_rI V' r 40 = bk_rI V r 40) (e : ∀ i j, 2 ≤ i → i ≤ 6 → D' i j = D i j) : pk_n3 V' r D' := by
  have g : ∀ j, bk_rI V' (r + 8) j = bk_rI V (r + 8) j := fun j => congrFun f j
  refine ⟨by rw [e _ _ (by omega) (by omega), f2]; exact h.1, fun k hk => ?_⟩
  rw [e _ _ (by omega) (by omega)] at hk
  rw [e _ _ (by omega) (by omega), e _ _ (by omega) (by omega), e _ _ (by omega) (by omega), e _ _ (by omega) (by omega), g, g, g, g]
  exact h.2 k hk
theorem pk_n5.cg (h : pk_n5 V r D) (f : V'.1 (r + 10) = V.1 (r + 10)) (f2 : bk_rI V' r 41 = bk_rI V r 41) (e : ∀ i j, 7 ≤ i → i ≤ 9 → D' i j = D i j) : pk_n5 V' r D' := by
  have g : ∀ j, bk_rI V' (r + 10) j = bk_rI V (r + 10) j := fun j => congrFun f j
  refine ⟨by rw [e _ _ (by omega) (by omega), f2]; exact h.1, fun k hk => ?_⟩
  rw [e _ _ (by omega) (by omega)] at hk
  rw [e _ _ (by omega) (by omega), e _ _ (by omega) (by omega), g, g]
  exact h.2 k hk
theorem pk_n7.cg (h : pk_n7 V r D) (f : V'.1 (r + 11) = V.1 (r + 11)) (f2 : bk_rI V' r 42 = bk_rI V r 42) (e : ∀ i j, 10 ≤ i → i ≤ 16 → D' i j = D i j) : pk_n7 V' r D' := by
  have g : ∀ j, bk_rI V' (r + 11) j = bk_rI V (r + 11) j := fun j => congrFun f j
  refine ⟨by rw [e _ _ (by omega) (by omega), f2]; exact h.1, fun k hk => ?_⟩
  rw [e _ _ (by omega) (by omega)] at hk
  rw [e _ _ (by omega) (by omega), e _ _ (by omega) (by omega), e _ _ (by omega) (by omega), e _ _ (by omega) (by omega), g, g, g, g]
  exact h.2 k hk
theorem pk_d0.cg (h : pk_d0 D) (e : ∀ j, D' 0 j = D 0 j) : pk_d0 D' := by
  unfold pk_d0 at *
  rw [e, e, e, e, e, e, e, e]
  exact h
theorem pk_d1.cg (h : pk_d1 D) (e : ∀ j, D' 1 j = D 1 j) : pk_d1 D' := fun c hc => by rw [e]; exact h c hc
theorem pk_d2.cg (h : pk_d2 D) (e0 : D' 0 0 = D 0 0) (e : ∀ i j, 2 ≤ i → i ≤ 6 → D' i j = D i j) : pk_d2 D' := by
  refine ⟨by rw [e _ _ (by omega) (by omega)]; exact h.1, fun k hk => ?_⟩
  rw [e _ _ (by omega) (by omega)] at hk
  rw [e0, e _ _ (by omega) (by omega), e _ _ (by omega) (by omega), e _ _ (by omega) (by omega), e _ _ (by omega) (by omega)]
  exact h.2 k hk
theorem pk_d7.cg (h : pk_d7 D) (e : ∀ i j, 7 ≤ i → i ≤ 9 → D' i j = D i j) : pk_d7 D' := by
  refine ⟨by rw [e _ _ (by omega) (by omega)]; exact h.1, fun k hk => ?_⟩
  rw [e _ _ (by omega) (by omega)] at hk
  rw [e _ _ (by omega) (by omega), e _ _ (by omega) (by omega)]
  exact h.2 k hk
theorem pk_d10.cg (h : pk_d10 D) (e : ∀ i j, 10 ≤ i → i ≤ 16 → D' i j = D i j) : pk_d10 D' := by
  refine ⟨by rw [e _ _ (by omega) (by omega)]; exact h.1, fun k hk => ?_⟩
  rw [e _ _ (by omega) (by omega)] at hk
  rw [e _ _ (by omega) (by omega), e _ _ (by omega) (by omega), e _ _ (by omega) (by omega), e _ _ (by omega) (by omega), e _ _ (by omega) (by omega), e _ _ (by omega) (by omega)]
  exact h.2 k hk
theorem tq_D_ne (h : i ≠ a) : tq_D D a k v i j = D i j := if_neg (fun g => h g.1)
theorem tq_D_eq : tq_D D a k v a j = if j = k then v else D a j := by
  unfold tq_D
  by_cases g : j = k
  · rw [if_pos g, if_pos ⟨rfl, g⟩]
  · rw [if_neg g, if_neg (fun q => g q.2)]
theorem tq_Da_c : tq_Da D c lo hi F c 0 = D c 0 + 1 := by
  unfold tq_Da
  rw [if_pos rfl, if_pos rfl]
theorem tq_Da_i (h1 : i ≠ c) (h2 : lo ≤ i) (h3 : i ≤ hi) : tq_Da D c lo hi F i j = if j = D c 0 then F i else D i j := by
  unfold tq_Da
  rw [if_neg h1]
  by_cases g : j = D c 0
  · rw [if_pos g, if_pos ⟨g, h2, h3⟩]
  · rw [if_neg g, if_neg (fun q => g q.1)]
theorem tq_Da_ne (h1 : i ≠ c) (h2 : i < lo ∨ hi < i) : tq_Da D c lo hi F i j = D i j := by
  unfold tq_Da
  rw [if_neg h1, if_neg (by omega)]
/-- a setting -/
theorem pk_CT.w1 (h : pk_CT V t D P) : pk_CT (bk_wI V (t + 1) k (nI v)) t (tq_D D 0 k v) P := by
  obtain ⟨a1, a2, a3, a4, a5, a6⟩ := pk_CT_iff.mp h
  refine pk_CT_iff.mpr ⟨fun j hj => ?_, a2.cg (pk_rowI (by omega)) (fun j => tq_D_ne (by omega)), a3.cg (fun a q1 q2 => pk_rowI (by omega)) (fun i j q1 q2 => tq_D_ne (by omega)), a4.cg (fun a q1 q2 => pk_rowI (by omega)) (fun i j q1 q2 => tq_D_ne (by omega)), a5.cg (fun a q1 q2 => pk_rowI (by omega)) (fun i j q1 q2 => tq_D_ne (by omega)), a6.cg (fun a q1 q2 q3 => pk_rowI (by omega))⟩
  rw [tq_D_eq, pk_rI_same]
  by_cases g : j = k
  · rw [if_pos g, if_pos g]
  · rw [if_neg g, if_neg g]; exact a1 j hj
theorem pk_NT.w1 (h : pk_NT V r D) (hk : k < 8) : pk_NT (bk_wI V r (32 + k) (nI v)) r (tq_D D 0 k v) := by
  obtain ⟨a1, a2, a3, a4, a5⟩ := pk_NT_iff.mp h
  refine pk_NT_iff.mpr ⟨fun j hj => ?_, a2.cg (pk_rowI (by omega)) (fun j => tq_D_ne (by omega)), a3.cg (pk_rowI (by omega)) (by rw [pk_rI_same, if_neg (by omega)]) (fun i j q1 q2 => tq_D_ne (by omega)), a4.cg (pk_rowI (by omega)) (by rw [pk_rI_same, if_neg (by omega)]) (fun i j q1 q2 => tq_D_ne (by omega)), a5.cg (pk_rowI (by omega)) (by rw [pk_rI_same, if_neg (by omega)]) (fun i j q1 q2 => tq_D_ne (by omega))⟩
  rw [tq_D_eq, pk_rI_same]
  by_cases g : j = k
  · rw [if_pos g, if_pos (by omega)]
  · rw [if_neg g, if_neg (by omega)]; exact a1 j hj
/-- a cause -/
theorem pk_CT.w2 (h : pk_CT V t D P) : pk_CT (bk_wI V (t + 2) k (nI v)) t (tq_D D 1 k v) P := by
  obtain ⟨a1, a2, a3, a4, a5, a6⟩ := pk_CT_iff.mp h
  refine pk_CT_iff.mpr ⟨a1.cg (pk_rowI (by omega)) (fun j => tq_D_ne (by omega)), fun j hj => ?_, a3.cg (fun a q1 q2 => pk_rowI (by omega)) (fun i j q1 q2 => tq_D_ne (by omega)), a4.cg (fun a q1 q2 => pk_rowI (by omega)) (fun i j q1 q2 => tq_D_ne (by omega)), a5.cg (fun a q1 q2 => pk_rowI (by omega)) (fun i j q1 q2 => tq_D_ne (by omega)), a6.cg (fun a q1 q2 q3 => pk_rowI (by omega))⟩
  rw [tq_D_eq, pk_rI_same]
  by_cases g : j = k
  · rw [if_pos g, if_pos g]
  · rw [if_neg g, if_neg g]; exact a2 j hj
theorem pk_NT.w2 (h : pk_NT V r D) : pk_NT (bk_wI V (r + 9) k (nI v)) r (tq_D D 1 k v) := by
  obtain ⟨a1, a2, a3, a4, a5⟩ := pk_NT_iff.mp h
  refine pk_NT_iff.mpr ⟨a1.cg (fun k q1 q2 => by rw [pk_rI_ne (by omega)]) (fun j => tq_D_ne (by omega)), fun j hj => ?_, a3.cg (pk_rowI (by omega)) (by rw [pk_rI_ne (by omega)]) (fun i j q1 q2 => tq_D_ne (by omega)), a4.cg (pk_rowI (by omega)) (by rw [pk_rI_ne (by omega)]) (fun i j q1 q2 => tq_D_ne (by omega)), a5.cg (pk_rowI (by omega)) (by rw [pk_rI_ne (by omega)]) (fun i j q1 q2 => tq_D_ne (by omega))⟩
  rw [tq_D_eq, pk_rI_same]
  by_cases g : j = k
  · rw [if_pos g, if_pos g]
  · rw [if_neg g, if_neg g]; exact a2 j hj
theorem pk_DB.w1 (h : pk_DB D P) (hk : k < 8) (h0 : k ≠ 0) (hv : (k = 1 → 1 ≤ v ∧ v ≤ 9) ∧ (k = 2 ∨ k = 3 ∨ k = 7 → 1 ≤ v ∧ v ≤ 99) ∧ (k = 4 → 1 ≤ v ∧ v ≤ 100) ∧ (k = 5 → v < D 0 0) ∧ (k = 6 → v ≤ 99)) : pk_DB (tq_D D 0 k v) P := by
  obtain ⟨a1, a2, a3, a4, a5, a6⟩ := pk_DB_iff.mp h
  refine pk_DB_iff.mpr ⟨?_, a2.cg (fun j => tq_D_ne (by omega)), a3.cg (by rw [tq_D_eq, if_neg (by omega)]) (fun i j q1 q2 => tq_D_ne (by omega)), a4.cg (fun i j q1 q2 => tq_D_ne (by omega)), a5.cg (fun i j q1 q2 => tq_D_ne (by omega)), a6⟩
  unfold pk_d0 at *
  rw [tq_D_eq, tq_D_eq, tq_D_eq, tq_D_eq, tq_D_eq, tq_D_eq, tq_D_eq, tq_D_eq]
  rcases (show k = 1 ∨ k = 2 ∨ k = 3 ∨ k = 4 ∨ k = 5 ∨ k = 6 ∨ k = 7 by omega) with g | g | g | g | g | g | g <;> subst g <;> simp only [Nat.reduceEqDiff, if_true, if_false, Nat.succ_ne_zero] <;> omega
theorem pk_DB.w0 (h : pk_DB D P) (hv : 12 ≤ v ∧ v ≤ 84) (h5 : D 0 5 = 0) (h2 : D 2 0 = 0) : pk_DB (tq_D D 0 0 v) P := by
  obtain ⟨a1, a2, a3, a4, a5, a6⟩ := pk_DB_iff.mp h
  refine pk_DB_iff.mpr ⟨?_, a2.cg (fun j => tq_D_ne (by omega)), ⟨by rw [tq_D_ne (by omega), h2]; omega, fun k hk => by rw [tq_D_ne (by omega), h2] at hk; omega⟩, a4.cg (fun i j q1 q2 => tq_D_ne (by omega)), a5.cg (fun i j q1 q2 => tq_D_ne (by omega)), a6⟩
  unfold pk_d0 at *
  rw [tq_D_eq, tq_D_eq, tq_D_eq, tq_D_eq, tq_D_eq, tq_D_eq, tq_D_eq, tq_D_eq]
  simp only [Nat.reduceEqDiff, if_true, if_false, Nat.succ_ne_zero]
  omega
theorem pk_DB.w2 (h : pk_DB D P) (hv : v ≤ 99) : pk_DB (tq_D D 1 k v) P := by
  obtain ⟨a1, a2, a3, a4, a5, a6⟩ := pk_DB_iff.mp h
  refine pk_DB_iff.mpr ⟨a1.cg (fun j => tq_D_ne (by omega)), fun c hc => ?_, a3.cg (tq_D_ne (by omega)) (fun i j q1 q2 => tq_D_ne (by omega)), a4.cg (fun i j q1 q2 => tq_D_ne (by omega)), a5.cg (fun i j q1 q2 => tq_D_ne (by omega)), a6⟩
  rw [tq_D_eq]
  split
  · exact hv
  · exact a2 c hc
/-- a trial -/
theorem pk_CT.w5 (h : pk_CT V t D P) (f : ∀ a, t < a → a < t + 20 → a ≠ t + 17 → (a < t + 7 ∨ t + 9 < a) → V'.1 a = V.1 a) (e1 : bk_rI V' (t + 7) 2 = nI (D 7 0 + 1)) (e2 : ∀ k, bk_rI V' (t + 8) k = if k = D 7 0 then nI (F 8) else bk_rI V (t + 8) k) (e3 : ∀ k, bk_rI V' (t + 9) k = if k = D 7 0 then nI (F 9) else bk_rI V (t + 9) k) : pk_CT V' t (tq_Da D 7 8 9 F) P := by
  obtain ⟨a1, a2, a3, a4, a5, a6⟩ := pk_CT_iff.mp h
  refine pk_CT_iff.mpr ⟨a1.cg (f _ (by omega) (by omega) (by omega) (by omega)) (fun j => tq_Da_ne (by omega) (by omega)), a2.cg (f _ (by omega) (by omega) (by omega) (by omega)) (fun j => tq_Da_ne (by omega) (by omega)), a3.cg (fun a q1 q2 => f _ (by omega) (by omega) (by omega) (by omega)) (fun i j q1 q2 => tq_Da_ne (by omega) (by omega)), ⟨?_, fun k hk => ?_⟩, a5.cg (fun a q1 q2 => f _ (by omega) (by omega) (by omega) (by omega)) (fun i j q1 q2 => tq_Da_ne (by omega) (by omega)), a6.cg (fun a q1 q2 q3 => f _ (by omega) (by omega) (by omega) (by omega))⟩
  · rw [tq_Da_c]; exact e1
  · rw [tq_Da_c] at hk
    rw [tq_Da_i (by omega) (by omega) (by omega), tq_Da_i (by omega) (by omega) (by omega), e2, e3]
    by_cases g : k = D 7 0
    · rw [if_pos g, if_pos g, if_pos g, if_pos g]; exact ⟨rfl, rfl⟩
    · rw [if_neg g, if_neg g, if_neg g, if_neg g]; exact a4.2 k (by omega)
theorem pk_NT.w5 (h : pk_NT V r D) (f : ∀ a, r + 8 ≤ a → a ≤ r + 11 → a ≠ r + 10 → V'.1 a = V.1 a) (f2 : ∀ k, 32 ≤ k → k < 43 → k ≠ 41 → bk_rI V' r k = bk_rI V r k) (e1 : bk_rI V' r 41 = nI (D 7 0 + 1)) (e2 : ∀ k, k < 2 * D 7 0 → bk_rI V' (r + 10) k = bk_rI V (r + 10) k) (e3 : bk_rI V' (r + 10) (2 * D 7 0) = nI (F 8)) (e4 : bk_rI V' (r + 10) (2 * D 7 0 + 1) = nI (F 9)) : pk_NT V' r (tq_Da D 7 8 9 F) := by
  obtain ⟨a1, a2, a3, a4, a5⟩ := pk_NT_iff.mp h
  refine pk_NT_iff.mpr ⟨a1.cg (fun k q1 q2 => f2 k q1 (by omega) (by omega)) (fun j => tq_Da_ne (by omega) (by omega)), a2.cg (f _ (by omega) (by omega) (by omega)) (fun j => tq_Da_ne (by omega) (by omega)), a3.cg (f _ (by omega) (by omega) (by omega)) (f2 _ (by omega) (by omega) (by omega)) (fun i j q1 q2 => tq_Da_ne (by omega) (by omega)), ⟨?_, fun k hk => ?_⟩, a5.cg (f _ (by omega) (by omega) (by omega)) (f2 _ (by omega) (by omega) (by omega)) (fun i j q1 q2 => tq_Da_ne (by omega) (by omega))⟩
  · rw [tq_Da_c]; exact e1
  · rw [tq_Da_c] at hk
    rw [tq_Da_i (by omega) (by omega) (by omega), tq_Da_i (by omega) (by omega) (by omega)]
    by_cases g : k = D 7 0
    · rw [if_pos g, if_pos g, g]; exact ⟨e3, e4⟩
    · rw [if_neg g, if_neg g, e2 _ (by omega), e2 _ (by omega)]; exact a4.2 k (by omega)
theorem pk_DB.w5 (h : pk_DB D P) (hl : D 7 0 < 6) (hv : 1 ≤ F 8 ∧ F 8 ≤ 99 ∧ 1 ≤ F 9 ∧ F 9 ≤ 99) : pk_DB (tq_Da D 7 8 9 F) P := by
  obtain ⟨a1, a2, a3, a4, a5, a6⟩ := pk_DB_iff.mp h
  refine pk_DB_iff.mpr ⟨a1.cg (fun j => tq_Da_ne (by omega) (by omega)), a2.cg (fun j => tq_Da_ne (by omega) (by omega)), a3.cg (tq_Da_ne (by omega) (by omega)) (fun i j q1 q2 => tq_Da_ne (by omega) (by omega)), ⟨by rw [tq_Da_c]; omega, fun k hk => ?_⟩, a5.cg (fun i j q1 q2 => tq_Da_ne (by omega) (by omega)), a6⟩
  rw [tq_Da_c] at hk
  rw [tq_Da_i (by omega) (by omega) (by omega), tq_Da_i (by omega) (by omega) (by omega)]
  by_cases g : k = D 7 0
  · rw [if_pos g, if_pos g]; exact hv
  · rw [if_neg g, if_neg g]; exact a4.2 k (by omega)
/-- a hole -/
theorem pk_CT.w3 (h : pk_CT V t D P) (f : ∀ a, t < a → a < t + 20 → a ≠ t + 17 → (a < t + 3 ∨ t + 6 < a) → V'.1 a = V.1 a) (e1 : bk_rI V' (t + 3) 4 = nI (D 2 0 + 1)) (e2 : ∀ k, bk_rI V' (t + 4) k = if k = D 2 0 then nI (F 3) else bk_rI V (t + 4) k) (e3 : ∀ k, bk_rI V' (t + 5) k = if k = D 2 0 then nI (F 4) else bk_rI V (t + 5) k) (e4 : ∀ k, bk_rI V' (t + 6) k = if k = D 2 0 then nI (F 5) else bk_rI V (t + 6) k) (e5 : ∀ k, k ≤ D 2 0 → (bk_shr (bk_rI V' (t + 3) 3) (nI k)) &&& nI 1 = if k = D 2 0 then nI (F 6) else (bk_shr (bk_rI V (t + 3) 3) (nI k)) &&& nI 1) : pk_CT V' t (tq_Da D 2 3 6 F) P := by
  obtain ⟨a1, a2, a3, a4, a5, a6⟩ := pk_CT_iff.mp h
  refine pk_CT_iff.mpr ⟨a1.cg (f _ (by omega) (by omega) (by omega) (by omega)) (fun j => tq_Da_ne (by omega) (by omega)), a2.cg (f _ (by omega) (by omega) (by omega) (by omega)) (fun j => tq_Da_ne (by omega) (by omega)), ⟨?_, fun k hk => ?_⟩, a4.cg (fun a q1 q2 => f _ (by omega) (by omega) (by omega) (by omega)) (fun i j q1 q2 => tq_Da_ne (by omega) (by omega)), a5.cg (fun a q1 q2 => f _ (by omega) (by omega) (by omega) (by omega)) (fun i j q1 q2 => tq_Da_ne (by omega) (by omega)), a6.cg (fun a q1 q2 q3 => f _ (by omega) (by omega) (by omega) (by omega))⟩
  · rw [tq_Da_c]; exact e1
  · rw [tq_Da_c] at hk
    rw [tq_Da_i (by omega) (by omega) (by omega), tq_Da_i (by omega) (by omega) (by omega), tq_Da_i (by omega) (by omega) (by omega), tq_Da_i (by omega) (by omega) (by omega), e2, e3, e4, e5 k (by omega)]
    by_cases g : k = D 2 0
    · simp only [if_pos g]; exact ⟨trivial, trivial, trivial, trivial⟩
    · simp only [if_neg g]; exact a3.2 k (by omega)
theorem pk_NT.w3 (h : pk_NT V r D) (f : ∀ a, r + 8 ≤ a → a ≤ r + 11 → a ≠ r + 8 → V'.1 a = V.1 a) (f2 : ∀ k, 32 ≤ k → k < 43 → k ≠ 40 → bk_rI V' r k = bk_rI V r k) (e1 : bk_rI V' r 40 = nI (D 2 0 + 1)) (e2 : ∀ k, k < 4 * D 2 0 → bk_rI V' (r + 8) k = bk_rI V (r + 8) k) (e3 : bk_rI V' (r + 8) (4 * D 2 0) = nI (F 3)) (e4 : bk_rI V' (r + 8) (4 * D 2 0 + 1) = nI (F 4)) (e5 : bk_rI V' (r + 8) (4 * D 2 0 + 2) = nI (F 5)) (e6 : bk_rI V' (r + 8) (4 * D 2 0 + 3) = nI (F 6)) : pk_NT V' r (tq_Da D 2 3 6 F) := by
  obtain ⟨a1, a2, a3, a4, a5⟩ := pk_NT_iff.mp h
  refine pk_NT_iff.mpr ⟨a1.cg (fun k q1 q2 => f2 k q1 (by omega) (by omega)) (fun j => tq_Da_ne (by omega) (by omega)), a2.cg (f _ (by omega) (by omega) (by omega)) (fun j => tq_Da_ne (by omega) (by omega)), ⟨?_, fun k hk => ?_⟩, a4.cg (f _ (by omega) (by omega) (by omega)) (f2 _ (by omega) (by omega) (by omega)) (fun i j q1 q2 => tq_Da_ne (by omega) (by omega)), a5.cg (f _ (by omega) (by omega) (by omega)) (f2 _ (by omega) (by omega) (by omega)) (fun i j q1 q2 => tq_Da_ne (by omega) (by omega))⟩
  · rw [tq_Da_c]; exact e1
  · rw [tq_Da_c] at hk
    rw [tq_Da_i (by omega) (by omega) (by omega), tq_Da_i (by omega) (by omega) (by omega), tq_Da_i (by omega) (by omega) (by omega), tq_Da_i (by omega) (by omega) (by omega)]
    by_cases g : k = D 2 0
    · simp only [if_pos g]; rw [g]; exact ⟨e3, e4, e5, e6⟩
    · simp only [if_neg g]; rw [e2 _ (by omega), e2 _ (by omega), e2 _ (by omega), e2 _ (by omega)]; exact a3.2 k (by omega)
theorem pk_DB.w3 (h : pk_DB D P) (hl : D 2 0 < 6) (hv : F 3 < D 0 0 ∧ F 4 ≤ 3 ∧ 1 ≤ F 5 ∧ F 5 ≤ 24 ∧ F 6 ≤ 1) : pk_DB (tq_Da D 2 3 6 F) P := by
  obtain ⟨a1, a2, a3, a4, a5, a6⟩ := pk_DB_iff.mp h
  refine pk_DB_iff.mpr ⟨a1.cg (fun j => tq_Da_ne (by omega) (by omega)), a2.cg (fun j => tq_Da_ne (by omega) (by omega)), ⟨by rw [tq_Da_c]; omega, fun k hk => ?_⟩, a4.cg (fun i j q1 q2 => tq_Da_ne (by omega) (by omega)), a5.cg (fun i j q1 q2 => tq_Da_ne (by omega) (by omega)), a6⟩
  rw [tq_Da_c] at hk
  rw [tq_Da_ne (i := 0) (by omega) (by omega), tq_Da_i (i := 3) (by omega) (by omega) (by omega), tq_Da_i (i := 4) (by omega) (by omega) (by omega), tq_Da_i (i := 5) (by omega) (by omega) (by omega), tq_Da_i (i := 6) (by omega) (by omega) (by omega)]
  by_cases g : k = D 2 0
  · simp only [if_pos g]; exact hv
  · simp only [if_neg g]; exact a3.2 k (by omega)
/-- a rider -/
theorem pk_CT.w7 (h : pk_CT V t D P) (f : ∀ a, t < a → a < t + 20 → a ≠ t + 17 → (a < t + 10 ∨ t + 14 < a) → V'.1 a = V.1 a) (e1 : bk_rI V' (t + 10) 4 = nI (D 10 0 + 1)) (e2 : ∀ k, bk_rI V' (t + 11) k = if k = D 10 0 then nI (F 11) else bk_rI V (t + 11) k) (e3 : ∀ k, bk_rI V' (t + 12) k = if k = D 10 0 then nI (F 12) else bk_rI V (t + 12) k) (e4 : ∀ k, bk_rI V' (t + 13) k = if k = D 10 0 then nI (F 13) else bk_rI V (t + 13) k) (e5 : ∀ k, bk_rI V' (t + 14) k = if k = D 10 0 then nI (F 14) else bk_rI V (t + 14) k) : pk_CT V' t (tq_Da D 10 11 16 F) P := by
  obtain ⟨a1, a2, a3, a4, a5, a6⟩ := pk_CT_iff.mp h
  refine pk_CT_iff.mpr ⟨a1.cg (f _ (by omega) (by omega) (by omega) (by omega)) (fun j => tq_Da_ne (by omega) (by omega)), a2.cg (f _ (by omega) (by omega) (by omega) (by omega)) (fun j => tq_Da_ne (by omega) (by omega)), a3.cg (fun a q1 q2 => f _ (by omega) (by omega) (by omega) (by omega)) (fun i j q1 q2 => tq_Da_ne (by omega) (by omega)), a4.cg (fun a q1 q2 => f _ (by omega) (by omega) (by omega) (by omega)) (fun i j q1 q2 => tq_Da_ne (by omega) (by omega)), ⟨?_, fun k hk => ?_⟩, a6.cg (fun a q1 q2 q3 => f _ (by omega) (by omega) (by omega) (by omega))⟩
  · rw [tq_Da_c]; exact e1
  · rw [tq_Da_c] at hk
    rw [tq_Da_i (by omega) (by omega) (by omega), tq_Da_i (by omega) (by omega) (by omega), tq_Da_i (by omega) (by omega) (by omega), tq_Da_i (by omega) (by omega) (by omega), e2, e3, e4, e5]
    by_cases g : k = D 10 0
    · simp only [if_pos g]; exact ⟨trivial, trivial, trivial, trivial⟩
    · simp only [if_neg g]; exact a5.2 k (by omega)
theorem pk_NT.w7 (h : pk_NT V r D) (f : ∀ a, r + 8 ≤ a → a ≤ r + 11 → a ≠ r + 11 → V'.1 a = V.1 a) (f2 : ∀ k, 32 ≤ k → k < 43 → k ≠ 42 → bk_rI V' r k = bk_rI V r k) (e1 : bk_rI V' r 42 = nI (D 10 0 + 1)) (e2 : ∀ k, k < 4 * D 10 0 → bk_rI V' (r + 11) k = bk_rI V (r + 11) k) (e3 : bk_rI V' (r + 11) (4 * D 10 0) = nI (F 15)) (e4 : bk_rI V' (r + 11) (4 * D 10 0 + 1) = nI (F 16)) (e5 : bk_rI V' (r + 11) (4 * D 10 0 + 2) = nI (F 13)) (e6 : bk_rI V' (r + 11) (4 * D 10 0 + 3) = nI (F 14)) : pk_NT V' r (tq_Da D 10 11 16 F) := by
  obtain ⟨a1, a2, a3, a4, a5⟩ := pk_NT_iff.mp h
  refine pk_NT_iff.mpr ⟨a1.cg (fun k q1 q2 => f2 k q1 (by omega) (by omega)) (fun j => tq_Da_ne (by omega) (by omega)), a2.cg (f _ (by omega) (by omega) (by omega)) (fun j => tq_Da_ne (by omega) (by omega)), a3.cg (f _ (by omega) (by omega) (by omega)) (f2 _ (by omega) (by omega) (by omega)) (fun i j q1 q2 => tq_Da_ne (by omega) (by omega)), a4.cg (f _ (by omega) (by omega) (by omega)) (f2 _ (by omega) (by omega) (by omega)) (fun i j q1 q2 => tq_Da_ne (by omega) (by omega)), ⟨?_, fun k hk => ?_⟩⟩
  · rw [tq_Da_c]; exact e1
  · rw [tq_Da_c] at hk
    rw [tq_Da_i (by omega) (by omega) (by omega), tq_Da_i (by omega) (by omega) (by omega), tq_Da_i (by omega) (by omega) (by omega), tq_Da_i (by omega) (by omega) (by omega)]
    by_cases g : k = D 10 0
    · simp only [if_pos g]; rw [g]; exact ⟨e3, e4, e5, e6⟩
    · simp only [if_neg g]; rw [e2 _ (by omega), e2 _ (by omega), e2 _ (by omega), e2 _ (by omega)]; exact a5.2 k (by omega)
theorem pk_DB.w7 (h : pk_DB D P) (hl : D 10 0 < 8) (hv : F 15 ≤ 39 ∧ F 16 ≤ 39 ∧ F 11 = min (F 15) (F 16) ∧ F 12 = max (F 15) (F 16) ∧ F 13 ≤ 23 ∧ F 14 ≤ 1) : pk_DB (tq_Da D 10 11 16 F) P := by
  obtain ⟨a1, a2, a3, a4, a5, a6⟩ := pk_DB_iff.mp h
  refine pk_DB_iff.mpr ⟨a1.cg (fun j => tq_Da_ne (by omega) (by omega)), a2.cg (fun j => tq_Da_ne (by omega) (by omega)), a3.cg (tq_Da_ne (by omega) (by omega)) (fun i j q1 q2 => tq_Da_ne (by omega) (by omega)), a4.cg (fun i j q1 q2 => tq_Da_ne (by omega) (by omega)), ⟨by rw [tq_Da_c]; omega, fun k hk => ?_⟩, a6⟩
  rw [tq_Da_c] at hk
  rw [tq_Da_i (by omega) (by omega) (by omega), tq_Da_i (by omega) (by omega) (by omega), tq_Da_i (by omega) (by omega) (by omega), tq_Da_i (by omega) (by omega) (by omega), tq_Da_i (by omega) (by omega) (by omega), tq_Da_i (by omega) (by omega) (by omega)]
  by_cases g : k = D 10 0
  · simp only [if_pos g]; exact hv
  · simp only [if_neg g]; exact a5.2 k (by omega)
end
