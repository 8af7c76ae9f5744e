/-! the lines of a text: what both hold of a tube that is being told -/
def tq_B (B : Nat → Bool) (b : Nat) : Nat → Bool := fun j => if j = b then true else B j
def tq_wd (b : Nat) : Nat := if b = 4 then 4 else if b = 1 then 20 else if b = 2 then 21 else if b = 3 then 22 else if b = 5 then 23 else if b = 6 then 24 else if b = 8 then 30 else 31
abbrev tq_ob (b : Nat) : Prop := (1 ≤ b ∧ b ≤ 6) ∨ b = 8 ∨ b = 9
def pk_bC (z : Nat) (V : bk_Val) (B : Nat → Bool) : Prop := ∃ s, bk_rI V (z + 54) 2 = nI s ∧ s < 2 ^ 14 ∧ ∀ b, b < 14 → (sp_bit s b ↔ B b = true)
def pk_bR (r : Nat) (V : bk_Val) (B : Nat → Bool) : Prop := ∃ s c, bk_rL V r 49 = lN s ∧ s < 2 ^ 32 ∧ bk_rI V r 45 = nI c ∧ c < 2 ^ 4 ∧ (∀ b, tq_ob b → (sp_bit s (tq_wd b) ↔ B b = true)) ∧ ∀ b, b < 4 → (sp_bit c b ↔ B (10 + b) = true)
/-- the reference's new tube -/
def pk_NT (V : bk_Val) (r : Nat) (D : Nat → Nat → Nat) : Prop :=
  (∀ k, k < 8 → bk_rI V r (32 + k) = nI (D 0 k)) ∧ (bk_rI V r 40 = nI (D 2 0) ∧ bk_rI V r 41 = nI (D 7 0) ∧ bk_rI V r 42 = nI (D 10 0)) ∧
  (∀ k, k < 4 → bk_rI V (r + 9) k = nI (D 1 k)) ∧
  (∀ h, h < D 2 0 → bk_rI V (r + 8) (4 * h) = nI (D 3 h) ∧ bk_rI V (r + 8) (4 * h + 1) = nI (D 4 h) ∧ bk_rI V (r + 8) (4 * h + 2) = nI (D 5 h) ∧ bk_rI V (r + 8) (4 * h + 3) = nI (D 6 h)) ∧
  (∀ k, k < D 7 0 → bk_rI V (r + 10) (2 * k) = nI (D 8 k) ∧ bk_rI V (r + 10) (2 * k + 1) = nI (D 9 k)) ∧
  (∀ k, k < D 10 0 → bk_rI V (r + 11) (4 * k) = nI (D 15 k) ∧ bk_rI V (r + 11) (4 * k + 1) = nI (D 16 k) ∧ bk_rI V (r + 11) (4 * k + 2) = nI (D 13 k) ∧ bk_rI V (r + 11) (4 * k + 3) = nI (D 14 k))
def pk_KR (V : bk_Val) (r : Nat) (P : Nat → List Nat) (K : List Nat) (w : Nat) : Prop := (P w = [] ∧ bk_rI V r (43 + w) = -nI 1) ∨ (P w ≠ [] ∧ ∃ K0 K1, K = K0 ++ (tq_rc w (P w) ++ [0]) ++ K1 ∧ bk_rI V r (43 + w) = nI K0.length)
def pk_KK (V : bk_Val) (r : Nat) (P : Nat → List Nat) (K : List Nat) : Prop := bk_rI V r 46 = nI K.length ∧ (∀ i, i < K.length → bk_rI V (r + 12) i = nI (K.getD i 0)) ∧ pk_KR V r P K 0 ∧ pk_KR V r P K 1
def pk_cL (N z u : Nat) (Y : bk_Lay) : Prop := 1000 ≤ N ∧ pk_Mn Y z ∧ pk_Sd Y u ∧ bk_rR Y (z + 54) 1 = some u ∧ z + 10 ≤ u ∧ u + 22 ≤ z + 54
def pk_LC (z u : Nat) (V : bk_Val) (T : Nat → Nat) (L p : Nat) (D : Nat → Nat → Nat) (P : Nat → List Nat) (B : Nat → Bool) : Prop := pk_PC z V T L p ∧ pk_CT V u D P ∧ pk_bC z V B
def pk_LR (r : Nat) (V : bk_Val) (T : Nat → Nat) (L p : Nat) (D : Nat → Nat → Nat) (P : Nat → List Nat) (B : Nat → Bool) : Prop := pk_PR r V T L p ∧ pk_NT V r D ∧ (∃ K, pk_KK V r P K ∧ K.length ≤ 2 * p) ∧ pk_bR r V B
def pk_fW (z u : Nat) (V V' : bk_Val) : Prop := V'.2 = V.2 ∧ ∀ x, x ≠ z + 54 → x ≠ z + 55 → (x ≤ u ∨ u + 20 < x) → V'.1 x = V.1 x
def pk_frW (r : Nat) (V V' : bk_Val) : Prop := (∀ a, a ≠ r → (a < r + 8 ∨ r + 14 < a) → V'.1 a = V.1 a) ∧ (∀ k, k < 21 ∨ k = 23 ∨ k = 24 ∨ 50 < k → V'.1 r k = V.1 r k) ∧ (∀ a, a ≠ r → V'.2 a = V.2 a) ∧ (∀ k, k ≠ 31 → k ≠ 49 → V'.2 r k = V.2 r k)
section
variable {N z t u s tl r a b c d k n j h m l p q q0 md wa s' i f e gg v S L g lo hi w : Nat} {Y Y' : bk_Lay} {V V' V2 : bk_Val} {x y x1 x2 x3 x4 x5 ee : Int32} {w1 w2 : Int64} {T T' R G In : Nat → Nat} {D D' : Nat → Nat → Nat} {P P' : Nat → List Nat} {B B' : Nat → Bool} {K : List Nat}
theorem sp_bit_tb (x i : Nat) : sp_bit x i ↔ x.testBit i = true := by
  rw [Nat.testBit_eq_decide_div_mod_eq, decide_eq_true_iff]
theorem sp_bit_or : sp_bit (s ||| 2 ^ b) j ↔ (sp_bit s j ∨ j = b) := by
  rw [sp_bit_tb, sp_bit_tb, Nat.testBit_or, Nat.testBit_two_pow, Bool.or_eq_true, decide_eq_true_eq]
  constructor
  · rintro (g | g)
    · exact Or.inl g
    · exact Or.inr g.symm
  · rintro (g | g)
    · exact Or.inl g
    · exact Or.inr g.symm
theorem tq_B_iff : tq_B B b j = true ↔ (B j = true ∨ j = b) := by
  unfold tq_B
  by_cases g : j = b
  · rw [if_pos g]; exact ⟨fun _ => Or.inr g, fun _ => rfl⟩
  · rw [if_neg g]; exact ⟨fun q => Or.inl q, fun q => q.resolve_right g⟩
theorem pk_shrLN (hn : n < 2 ^ 63) (hk : k < 64) : bk_shrL (lN n) (nI k) = lN (n / 2 ^ k) := by
  have hs : ∀ k, k < 64 → (((nI k).toInt64 &&& 63).toBitVec.smod 64).toNat = k := by decide
  unfold bk_shrL
  apply Int64.toInt_inj.mp
  have h2 : n / 2 ^ k ≤ n := Nat.div_le_self _ _
  show ((lN n).toBitVec.sshiftRight (((nI k).toInt64 &&& 63).toBitVec.smod 64).toNat).toInt = _
  rw [hs k hk, BitVec.toInt_sshiftRight, show (lN n).toBitVec.toInt = (n : Int) from pk_lT hn, pk_lT (by omega), Int.shiftRight_eq_div_pow]
  rfl
theorem pk_shlL1 (hk : k < 63) : bk_shlL (lN 1) (nI k) = lN (2 ^ k) := by
  have : ∀ k : Nat, k < 63 → bk_shlL (lN 1) (nI k) = lN (2 ^ k) := by decide +kernel
  exact this k hk
theorem pk_orL (a b : Nat) : lN a ||| lN b = lN (a ||| b) := by
  apply Int64.toBitVec_inj.1
  show BitVec.ofNat 64 a ||| BitVec.ofNat 64 b = BitVec.ofNat 64 (a ||| b)
  apply BitVec.eq_of_getLsbD_eq
  intro i hi
  simp [BitVec.getLsbD_or, BitVec.getLsbD_ofNat, hi]
theorem pk_and1L (hn : n < 2 ^ 63) : lN n &&& lN 1 = lN (n % 2) := by
  apply Int64.toBitVec_inj.1
  show BitVec.ofNat 64 n &&& BitVec.ofNat 64 1 = BitVec.ofNat 64 (n % 2)
  apply BitVec.eq_of_toNat_eq
  rw [BitVec.toNat_and, BitVec.toNat_ofNat, BitVec.toNat_ofNat, BitVec.toNat_ofNat, Nat.mod_eq_of_lt (show n < 2 ^ 64 by omega), Nat.mod_eq_of_lt (show (1 : Nat) < 2 ^ 64 by omega), Nat.mod_eq_of_lt (show n % 2 < 2 ^ 64 by omega)]
  exact Nat.and_one_is_mod n
theorem pk_fW.rf : pk_fW z u V V := ⟨rfl, fun _ _ _ _ => rfl⟩
theorem pk_fW.tr (h : pk_fW z u V V') (h2 : pk_fW z u V' V2) : pk_fW z u V V2 := ⟨h2.1.trans h.1, fun x q1 q2 q3 => (h2.2 x q1 q2 q3).trans (h.2 x q1 q2 q3)⟩
theorem pk_fN.fW (h : pk_fN z V V') : pk_fW z u V V' := ⟨h.1, fun x q1 q2 _ => h.2.1 x q1 q2⟩
theorem pk_fX.fW (h : pk_fX z a V V') (ha : u < a ∧ a + 1 ≤ u + 20) : pk_fW z u V V' := ⟨h.1, fun x q1 q2 q3 => h.2.1 x q1 q2 (by omega) (by omega)⟩
theorem pk_fW.wI (ha : a = z + 54 ∨ a = z + 55 ∨ (u < a ∧ a ≤ u + 20)) : pk_fW z u V (bk_wI V a k x) := ⟨rfl, fun x q1 q2 q3 => pk_rowI (by omega)⟩
theorem pk_frW.rf : pk_frW r V V := ⟨fun _ _ _ => rfl, fun _ _ => rfl, fun _ _ => rfl, fun _ _ _ => rfl⟩
theorem pk_frW.tr (h : pk_frW r V V') (h2 : pk_frW r V' V2) : pk_frW r V V2 := ⟨fun a q q2 => (h2.1 a q q2).trans (h.1 a q q2), fun k q => (h2.2.1 k q).trans (h.2.1 k q), fun a q => (h2.2.2.1 a q).trans (h.2.2.1 a q), fun k q q2 => (h2.2.2.2 k q q2).trans (h.2.2.2 k q q2)⟩
theorem pk_frX.toW (h : pk_frX r V V') : pk_frW r V V' := ⟨fun a q q2 => h.1 a q (by omega) (by omega) (by omega), fun k q => h.2.1 k (by omega), h.2.2.1, fun k q _ => h.2.2.2 k q⟩
theorem pk_frU.toW (h : pk_frU r V V') : pk_frW r V V' := h.toX.toW
theorem pk_frT.toW (h : pk_frT r V V') : pk_frW r V V' := h.toU.toW
theorem pk_frW.ws (hk : 25 ≤ k ∧ k ≤ 50) : pk_frW r V (bk_wI V r k x) := ⟨fun _ q _ => pk_rowI q, fun j q => pk_slot (by omega), fun _ _ => rfl, fun _ _ _ => rfl⟩
theorem pk_frW.wr (hk : r + 8 ≤ a ∧ a ≤ r + 14) : pk_frW r V (bk_wI V a k x) := ⟨fun _ _ q => pk_rowI (by omega), fun j _ => by rw [pk_rowI (by omega)], fun _ _ => rfl, fun _ _ _ => rfl⟩
theorem pk_bC.fN (h : pk_bC z V B) (f : pk_fN z V V') : pk_bC z V' B := by
  obtain ⟨s, h1, h2⟩ := h
  exact ⟨s, (f.2.2 2 (by omega)).trans h1, h2⟩
theorem pk_LC.fN (h : pk_LC z u V T L p D P B) (f : pk_fN z V V') (hu : u + 22 ≤ z + 54) (hp : pk_PC z V' T L q) : pk_LC z u V' T L q D P B := ⟨hp, h.2.1.of (fun a q1 q2 _ => f.2.1 a (by omega) (by omega)), h.2.2.fN f⟩
theorem pk_PR.off (h : pk_PR r V T L p) (f : ∀ k, k < 32 → bk_rI V' r k = bk_rI V r k) (f6 : V'.1 (r + 6) = V.1 (r + 6)) (fl : bk_rL V' r 31 = bk_rL V r 31) : pk_PR r V' T L p := by
  obtain ⟨⟨a1, a2, a3, a4⟩, ⟨b1, b2, b3, b4, b5, b6, b7⟩, h3, h4⟩ := h
  exact ⟨⟨fun j hj => (congrFun f6 j).trans (a1 j hj), a2, a3, (f 24 (by omega)).trans a4⟩, ⟨(f 25 (by omega)).trans b1, (f 26 (by omega)).trans b2, (f 27 (by omega)).trans b3, (f 28 (by omega)).trans b4, (f 29 (by omega)).trans b5, (f 30 (by omega)).trans b6, fl.trans b7⟩, h3, ⟨(f 21 (by omega)).trans h4.1, (f 22 (by omega)).trans h4.2⟩⟩
theorem pk_FR.off (h : pk_FR r V k e) (f : ∀ k, k < 32 → bk_rI V' r k = bk_rI V r k) : pk_FR r V' k e := ⟨(f 21 (by omega)).trans h.1, (f 22 (by omega)).trans h.2.1, h.2.2⟩
theorem pk_NT.of (h : pk_NT V r D) (f : ∀ k, 31 < k → k < 43 → bk_rI V' r k = bk_rI V r k) (f8 : ∀ a, r + 8 ≤ a → a ≤ r + 11 → V'.1 a = V.1 a) : pk_NT V' r D := by
  obtain ⟨a1, ⟨a2, a3, a4⟩, a5, a6, a7, a8⟩ := h
  have g : ∀ a j, r + 8 ≤ a → a ≤ r + 11 → bk_rI V' a j = bk_rI V a j := fun a j q1 q2 => congrFun (f8 a q1 q2) j
  refine ⟨fun k hk => (f _ (by omega) (by omega)).trans (a1 k hk), ⟨(f _ (by omega) (by omega)).trans a2, (f _ (by omega) (by omega)).trans a3, (f _ (by omega) (by omega)).trans a4⟩, fun k hk => (g _ _ (by omega) (by omega)).trans (a5 k hk), fun k hk => ?_, fun k hk => ?_, fun k hk => ?_⟩
  · rw [g _ _ (by omega) (by omega), g _ _ (by omega) (by omega), g _ _ (by omega) (by omega), g _ _ (by omega) (by omega)]; exact a6 k hk
  · rw [g _ _ (by omega) (by omega), g _ _ (by omega) (by omega)]; exact a7 k hk
  · rw [g _ _ (by omega) (by omega), g _ _ (by omega) (by omega), g _ _ (by omega) (by omega), g _ _ (by omega) (by omega)]; exact a8 k hk
theorem pk_KR.of (h : pk_KR V r P K w) (f : bk_rI V' r (43 + w) = bk_rI V r (43 + w)) : pk_KR V' r P K w := by
  rcases h with ⟨a, b⟩ | ⟨a, K0, K1, b, c⟩
  · exact Or.inl ⟨a, f.trans b⟩
  · exact Or.inr ⟨a, K0, K1, b, f.trans c⟩
theorem pk_KK.of (h : pk_KK V r P K) (f : ∀ k, 42 < k → k < 47 → k ≠ 45 → bk_rI V' r k = bk_rI V r k) (f8 : V'.1 (r + 12) = V.1 (r + 12)) : pk_KK V' r P K := ⟨(f _ (by omega) (by omega) (by omega)).trans h.1, fun i hi => (congrFun f8 i).trans (h.2.1 i hi), h.2.2.1.of (f _ (by omega) (by omega) (by omega)), h.2.2.2.of (f _ (by omega) (by omega) (by omega))⟩
theorem pk_bR.of (h : pk_bR r V B) (f : bk_rI V' r 45 = bk_rI V r 45) (fl : bk_rL V' r 49 = bk_rL V r 49) : pk_bR r V' B := by
  obtain ⟨s, c, h1, h2, h3, h4⟩ := h
  exact ⟨s, c, fl.trans h1, h2, f.trans h3, h4⟩
theorem pk_LR.frT (h : pk_LR r V T L p D P B) (f : pk_frT r V V') (hp : pk_PR r V' T L q) (hq : p ≤ q) : pk_LR r V' T L q D P B := by
  obtain ⟨a1, a2, ⟨K, a3, a4⟩, a5⟩ := h
  exact ⟨hp, a2.of (fun k q1 q2 => f.2.1 k (by omega)) (fun a q1 q2 => f.1 a (by omega)), ⟨K, a3.of (fun k q1 q2 _ => f.2.1 k (by omega)) (f.1 _ (by omega)), by omega⟩, a5.of (f.2.1 45 (by omega)) (f.2.2.2 49 (by omega))⟩
/-- what may be told but once -/
theorem pc_once (H : pk_cL N z u Y) (h : pk_LC z u V T L p D P B) (hb : b < 14) : (B b = true → ∃ V', q_X8_readOnce N Y V (z + 54) (nI b) = some (nI 0, V') ∧ pk_fW z u V V' ∧ pk_FC z V' 5 (tq_s T L p)) ∧ (B b = false → ∃ V', q_X8_readOnce N Y V (z + 54) (nI b) = some (nI 1, V') ∧ pk_fW z u V V' ∧ pk_LC z u V' T L (tq_e T L p) D P (tq_B B b)) := by
  obtain ⟨h1, h2, s, h3, h4, h5⟩ := h
  obtain ⟨hN, hM, hS, hi, u1, u2⟩ := H
  have eb := pk_bitE (s := s) (h := b) (by omega) (by omega)
  have e0 : q_X8_readOnce N Y V (z + 54) (nI b) = if sp_bit s b then bk_bd2 (q_X8_refuse N Y V (z + 54) (nI 5)) (fun r_10 V_11 => bk_ck (r_10 = nI 0 ∨ r_10 = nI 1) (some (r_10, V_11))) else (q_X9_step N Y (bk_wI V (z + 54) 2 (nI (s ||| 2 ^ b))) (z + 55)).bind fun V_7 => some (nI 1, V_7) := by
    unfold q_X8_readOnce
    simp (disch := omega) only [hM, pk_ckT, pk_bs, pk_letE, pk_bd2E, pk_bd3E, if_true, if_false, eq_self, not_true_eq_false, not_false_eq_true, true_and, and_true, Nat.not_lt_zero, Nat.zero_le, Nat.reduceEqDiff, Nat.reduceLT, Nat.reduceLeDiff, pk_ck, pk_lit, h3, eb, pk_shl1, pk_or]
  rw [e0]
  constructor
  · intro hB
    obtain ⟨V', e1, e2, e3⟩ := pc_refuse8 (N := N) (k := 5) hM h1
    refine ⟨V', ?_, e2.fW, e3⟩
    rw [if_pos ((h5 b hb).mpr hB), e1, pk_bd2E, pk_ck (Or.inl rfl)]
  · intro hB
    have hx : pk_PC z (bk_wI V (z + 54) 2 (nI (s ||| 2 ^ b))) T L p := ⟨⟨fun j hj => by rw [pk_rI_ne (by omega)]; exact h1.1.1 j hj, h1.1.2⟩, h1.2.1.w54, h1.2.2.1, by rw [pk_rI_same, if_neg (by omega)]; exact h1.2.2.2⟩
    obtain ⟨V', g1, g2, g3⟩ := pc_goes (N := N) hN hM hx
    refine ⟨V', ?_, (pk_fW.wI (Or.inl rfl)).tr g2.fN.fW, g3, ?_, s ||| 2 ^ b, ?_, Nat.or_lt_two_pow h4 (Nat.pow_lt_pow_right (by omega) hb), fun j hj => ?_⟩
    · rw [if_neg (fun g => by rw [(h5 b hb).mp g] at hB; exact Bool.noConfusion hB), g1, pk_bs]
    · exact h2.of (fun a q1 q2 _ => by rw [g2.2 a (by omega), pk_rowI (by omega)])
    · rw [show bk_rI V' (z + 54) 2 = bk_rI (bk_wI V (z + 54) 2 (nI (s ||| 2 ^ b))) (z + 54) 2 from congrFun (g2.2 (z + 54) (by omega)) 2, pk_rI_same, if_pos rfl]
    · rw [sp_bit_or, tq_B_iff, h5 j hj]
theorem tq_wd_b : ∀ b, b < 10 → tq_wd b < 32 := by decide
theorem tq_wd_inj0 : ∀ b : Fin 10, ∀ c : Fin 10, (((1 ≤ b.val ∧ b.val ≤ 6) ∨ b.val = 8 ∨ b.val = 9) ∧ ((1 ≤ c.val ∧ c.val ≤ 6) ∨ c.val = 8 ∨ c.val = 9) ∧ tq_wd b.val = tq_wd c.val) → b.val = c.val := by decide
theorem tq_wd_inj (b : Nat) (hb : b < 10) (c : Nat) (hc : c < 10) (h1 : tq_ob b) (h2 : tq_ob c) (h3 : tq_wd b = tq_wd c) : b = c := tq_wd_inj0 ⟨b, hb⟩ ⟨c, hc⟩ ⟨h1, h2, h3⟩
theorem pr_begins (hN : 1000 ≤ N) (hS : pk_Rf Y r) (h : pk_LR r V T L p D P B) (hb : tq_ob b) (ht : tq_k T L p ≠ 0) : (B b = true → ∃ V', q_X12_begins N Y V r (nI (tq_wd b)) = some (nI 0, V') ∧ pk_frW r V V' ∧ pk_FR r V' 5 (tq_s T L p)) ∧ (B b = false → ∃ V', q_X12_begins N Y V r (nI (tq_wd b)) = some (nI 1, V') ∧ pk_frW r V V' ∧ pk_LR r V' T L (tq_e T L p) D P (tq_B B b) ∧ ∃ K, pk_KK V' r P K ∧ K.length ≤ 2 * p) := by
  obtain ⟨h1, h2, h3, s, c, h4, h5, h6, h7, h8, h9⟩ := h
  have hb' : (1 ≤ b ∧ b ≤ 6) ∨ b = 8 ∨ b = 9 := hb
  have wb := tq_wd_b b (by omega)
  have s2 := Nat.div_le_self s (2 ^ tq_wd b)
  have ec : (lg_cmp ((bk_shrL (lN s) (nI (tq_wd b))) &&& lN 1) (lN 1) = nI 0) = sp_bit s (tq_wd b) := by
    rw [pk_cmpE, pk_shrLN (by omega) (by omega), pk_and1L (by omega), pk_lEQ (by omega) (by omega)]
  have e0 : q_X12_begins N Y V r (nI (tq_wd b)) = if sp_bit s (tq_wd b) then (q_X12_wrong N Y V r (nI 5)).bind (fun V_14 => q_X12_begins_18 N Y V_14 r (nI (tq_wd b))) else q_X12_begins_18 N Y V r (nI (tq_wd b)) := by
    unfold q_X12_begins
    simp only [hS, pk_ckT, pk_bs, pk_letE, pk_bd2E, pk_bd3E, if_true, if_false, eq_self, not_true_eq_false, not_false_eq_true, true_and, and_true, Nat.not_lt_zero, Nat.zero_le, Nat.reduceEqDiff, Nat.reduceLT, Nat.reduceLeDiff, pk_ck, pk_lit, pk_litL, h4, ec]
  have f1 : ∀ V, pk_frW r V (bk_wL V r 49 (lN (s ||| 2 ^ tq_wd b))) := fun V => ⟨fun _ _ _ => rfl, fun _ _ => rfl, fun _ q => pk_rowL q, fun j _ q => by show bk_rL (bk_wL V r 49 (lN (s ||| 2 ^ tq_wd b))) r j = bk_rL V r j; rw [pk_rL_same, if_neg q]⟩
  have e1 : ∀ V, bk_rL V r 49 = lN s → q_X12_begins_18 N Y V r (nI (tq_wd b)) = (q_X12_isGood N Y (bk_wL V r 49 (lN (s ||| 2 ^ tq_wd b))) r).bind fun r_8 => if r_8 = 0 then q_X12_begins_41 N Y (bk_wL V r 49 (lN (s ||| 2 ^ tq_wd b))) r else (q_X12_goes N Y (bk_wL V r 49 (lN (s ||| 2 ^ tq_wd b))) r).bind fun V_10 => q_X12_begins_41 N Y V_10 r := by
    intro V hV
    unfold q_X12_begins_18
    rw [pk_ck hS.1, hV, show bk_shlL 1 (nI (tq_wd b)) = lN (2 ^ tq_wd b) from pk_shlL1 (by omega), pk_orL, pk_letE]
  rw [e0]
  constructor
  · intro hB
    obtain ⟨V1, w1, w2, w3, -, -⟩ := pr_wrongY (N := N) (k := 5) hS h1 (by omega)
    have w3' : pk_FR r (bk_wL V1 r 49 (lN (s ||| 2 ^ tq_wd b))) 5 (tq_s T L p) := w3
    refine ⟨bk_wL V1 r 49 (lN (s ||| 2 ^ tq_wd b)), ?_, w2.toW.tr (f1 V1), w3'⟩
    rw [if_pos ((h8 b hb).mpr hB), w1, pk_bs, e1 V1 ((w2.2.2.2 49 (by omega)).trans h4), pr_goodN hS w3', pk_bs, if_pos (show nI 0 = (0 : Int32) from rfl)]
    unfold q_X12_begins_41
    rw [pk_ck hS.1, pr_goodN hS w3', pk_bs, pk_ck (show nI 0 = (0 : Int32) ∨ nI 0 = (1 : Int32) from Or.inl rfl)]
  · intro hB
    have x1 : pk_PR r (bk_wL V r 49 (lN (s ||| 2 ^ tq_wd b))) T L p := h1.off (fun _ _ => rfl) rfl (by rw [pk_rL_same, if_neg (by omega)])
    obtain ⟨V', g1, g2, g3⟩ := pr_goesP (N := N) hN hS x1
    have ge := tq_e_gt (T := T) h1.1.2.2.1 h1.2.2.1 ht
    obtain ⟨K, k1, k2⟩ := h3
    refine ⟨V', ?_, (f1 V).tr g2.toW, ⟨g3, h2.of (fun k q1 q2 => g2.2.1 k (by omega)) (fun a q1 q2 => g2.1 a (by omega)), ⟨K, k1.of (fun k q1 q2 _ => g2.2.1 k (by omega)) (g2.1 _ (by omega)), by omega⟩, s ||| 2 ^ tq_wd b, c, ?_, Nat.or_lt_two_pow h5 (Nat.pow_lt_pow_right (by omega) wb), (g2.2.1 45 (by omega)).trans h6, h7, fun j hj => ?_, fun j hj => ?_⟩, K, k1.of (fun k q1 q2 _ => g2.2.1 k (by omega)) (g2.1 _ (by omega)), k2⟩
    · rw [if_neg (fun g => by rw [(h8 b hb).mp g] at hB; exact Bool.noConfusion hB), e1 V h4, pr_goodY hS x1.2.2.2, pk_bs, if_neg pk_n10, g1, pk_bs]
      unfold q_X12_begins_41
      rw [pk_ck hS.1, pr_goodY hS g3.2.2.2, pk_bs, pk_ck (show nI 1 = (0 : Int32) ∨ nI 1 = (1 : Int32) from Or.inr rfl)]
    · rw [show bk_rL V' r 49 = bk_rL (bk_wL V r 49 (lN (s ||| 2 ^ tq_wd b))) r 49 from g2.2.2.2 49 (by omega), pk_rL_same, if_pos rfl]
    · have hj' : (1 ≤ j ∧ j ≤ 6) ∨ j = 8 ∨ j = 9 := hj
      rw [sp_bit_or, tq_B_iff, h8 j hj]
      constructor
      · rintro (g | g)
        · exact Or.inl g
        · exact Or.inr (tq_wd_inj j (by omega) b (by omega) hj hb g)
      · rintro (g | g)
        · exact Or.inl g
        · exact Or.inr (by rw [g])
    · rw [tq_B_iff, h9 j hj]
      constructor
      · exact fun g => Or.inl g
      · rintro (g | g)
        · exact g
        · omega
/-- the end of a line -/
theorem pc_tail (H : pk_cL N z u Y) (h : pk_LC z u V T L p D P B) : (tq_sn T L p 59 → ∃ V', bk_bd2 (q_X8_readSign N Y V (z + 54) (nI 59)) (fun r_26 V_27 => if r_26 = nI 0 then some (nI 0, V_27) else some (nI 1, V_27)) = some (nI 1, V') ∧ pk_fW z u V V' ∧ pk_LC z u V' T L (tq_e T L p) D P B) ∧ (¬ tq_sn T L p 59 → ∃ V', bk_bd2 (q_X8_readSign N Y V (z + 54) (nI 59)) (fun r_26 V_27 => if r_26 = nI 0 then some (nI 0, V_27) else some (nI 1, V_27)) = some (nI 0, V') ∧ pk_fW z u V V' ∧ pk_FC z V' 1 (tq_s T L p)) := by
  obtain ⟨hN, hM, hS, hi, u1, u2⟩ := H
  obtain ⟨s1, s2⟩ := pc_sign (N := N) (c := 59) hN hM h.1 (by omega)
  constructor
  · intro q
    obtain ⟨V', e1, e2, e3⟩ := s1 q
    exact ⟨V', by rw [e1, pk_bd2E, if_neg (show ¬ nI 1 = nI 0 by decide)], e2.fW, h.fN e2 u2 e3⟩
  · intro q
    obtain ⟨V', e1, e2, e3⟩ := s2 q
    exact ⟨V', by rw [e1, pk_bd2E, if_pos rfl], e2.fW, e3⟩
theorem pr_tailF (hS : pk_Rf Y r) (hs : ∃ x, q_X12_isSign N Y V r (nI 59) = some x) (h : pk_FR r V k e) : q_X12_line0_384 N Y V r = some V := by
  obtain ⟨x, hx⟩ := hs
  unfold q_X12_line0_384
  rw [pk_ck hS.1, show q_X12_isSign N Y V r 59 = _ from hx, pk_bs, pr_needF hS h, pk_bs]
theorem pr_tail (hN : 1000 ≤ N) (hS : pk_Rf Y r) (h : pk_LR r V T L p D P B) : (tq_sn T L p 59 → ∃ V', q_X12_line0_384 N Y V r = some V' ∧ pk_frW r V V' ∧ pk_LR r V' T L (tq_e T L p) D P B) ∧ (¬ tq_sn T L p 59 → ∃ V', q_X12_line0_384 N Y V r = some V' ∧ pk_frW r V V' ∧ pk_FR r V' 1 (tq_s T L p)) := by
  have e0 : q_X12_line0_384 N Y V r = (q_X12_need N Y V r (pk_B (tq_sn T L p 59))).bind fun V_5 => some V_5 := by
    unfold q_X12_line0_384
    rw [pk_ck hS.1, show q_X12_isSign N Y V r 59 = _ from pr_sn (g := 59) hS h.1 (by omega), pk_bs]
  rw [e0]
  constructor
  · intro q
    obtain ⟨V', e1, e2, e3⟩ := pr_needY (N := N) hN hS h.1
    have ge := tq_e_gt (T := T) h.1.1.2.2.1 h.1.2.2.1 (by have := q.1; omega)
    exact ⟨V', by rw [pk_Bt q, e1, pk_bs], e2.toW, h.frT e2 e3 (by omega)⟩
  · intro q
    obtain ⟨V', e1, e2, e3, -, -⟩ := pr_needN (N := N) hS h.1
    exact ⟨V', by rw [pk_Bf q, e1, pk_bs], e2.toW, e3⟩
end
