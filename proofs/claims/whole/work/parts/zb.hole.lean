/-! the lines: holes -/
def tq_dI (w : Nat) : Int32 := if w = 9 then nI 0 else if w = 10 then nI 1 else if w = 11 then nI 2 else if w = 12 then nI 3 else -nI 1
abbrev tq_at (D : Nat → Nat → Nat) (i s : Nat) : Prop := ∃ k, k < D 2 0 ∧ D 3 k = i ∧ D 4 k = s
section
variable {N z t u s r a b c d k n j h m l p q q0 md wa s' i f gg v S L g lo hi w e : Nat} {Y Y2 Y' : bk_Lay} {V V' V1 V2 V8 : bk_Val} {x y x1 x2 x3 x4 x5 ee : Int32} {T T' R G In : Nat → Nat} {D D' : Nat → Nat → Nat} {P P' : Nat → List Nat} {B B' : Nat → Bool} {K : List Nat} {o : pk_O} {X : Option (Int32 × bk_Val)} {XR : Option bk_Val}
/-- a bit of any number -/
theorem pk_bitI (x : Int32) (hk : k < 31) : (bk_shr x (nI k)) &&& nI 1 = nI (if x.toBitVec.getLsbD k then 1 else 0) := by
  have hs : ∀ k, k < 31 → ((nI k &&& 31).toBitVec.smod 32).toNat = k := by decide
  have e1 : (bk_shr x (nI k)).toBitVec = x.toBitVec.sshiftRight k := by
    unfold bk_shr
    show x.toBitVec.sshiftRight ((nI k &&& 31).toBitVec.smod 32).toNat = _
    rw [hs k hk]
  apply Int32.toBitVec_inj.1
  rw [Int32.toBitVec_and, e1]
  show x.toBitVec.sshiftRight k &&& BitVec.ofNat 32 1 = BitVec.ofNat 32 (if x.toBitVec.getLsbD k then 1 else 0)
  apply BitVec.eq_of_getLsbD_eq
  intro i hi
  rw [BitVec.getLsbD_and, BitVec.getLsbD_sshiftRight, BitVec.getLsbD_ofNat, BitVec.getLsbD_ofNat]
  by_cases q : i = 0
  · subst q
    rw [Nat.add_zero, if_pos (by omega)]
    cases x.toBitVec.getLsbD k <;> rfl
  · have t1 : Nat.testBit 1 i = false := by
      rw [show (1 : Nat) = 2 ^ 0 from rfl, Nat.testBit_two_pow, decide_eq_false (fun g => q g.symm)]
    rw [t1, Bool.and_false, Bool.and_false]
    cases x.toBitVec.getLsbD k
    · rw [if_neg (fun g => Bool.noConfusion g), Nat.zero_testBit, Bool.and_false]
    · rw [if_pos rfl, t1, Bool.and_false]
theorem pk_bitOr (x : Int32) (hn : n < 31) (hk : k < 31) : (bk_shr (x ||| bk_shl (nI 1) (nI n)) (nI k)) &&& nI 1 = if k = n then nI 1 else (bk_shr x (nI k)) &&& nI 1 := by
  rw [pk_bitI _ hk, pk_bitI _ hk, pk_shl1 hn]
  have e : (x ||| nI (2 ^ n)).toBitVec.getLsbD k = (x.toBitVec.getLsbD k || decide (n = k)) := by
    rw [Int32.toBitVec_or]
    show (x.toBitVec ||| BitVec.ofNat 32 (2 ^ n)).getLsbD k = _
    rw [BitVec.getLsbD_or, BitVec.getLsbD_ofNat, Nat.testBit_two_pow, decide_eq_true (by omega : k < 32), Bool.true_and]
  rw [e]
  by_cases q : k = n
  · rw [if_pos q, decide_eq_true q.symm, Bool.or_true, if_pos rfl]
  · rw [if_neg q, decide_eq_false (fun g => q g.symm), Bool.or_false]
theorem pk_bitAn (x : Int32) (hn : n < 31) (hk : k < 31) : (bk_shr (x &&& ((bk_shl (nI 1) (nI n)) ^^^ -nI 1)) (nI k)) &&& nI 1 = if k = n then nI 0 else (bk_shr x (nI k)) &&& nI 1 := by
  rw [pk_bitI _ hk, pk_bitI _ hk, pk_shl1 hn]
  have e : (x &&& (nI (2 ^ n) ^^^ -nI 1)).toBitVec.getLsbD k = (x.toBitVec.getLsbD k && !decide (n = k)) := by
    rw [Int32.toBitVec_and, Int32.toBitVec_xor, show (-nI 1).toBitVec = BitVec.allOnes 32 from rfl]
    show (x.toBitVec &&& (BitVec.ofNat 32 (2 ^ n) ^^^ BitVec.allOnes 32)).getLsbD k = _
    rw [BitVec.getLsbD_and, BitVec.getLsbD_xor, BitVec.getLsbD_ofNat, BitVec.getLsbD_allOnes, Nat.testBit_two_pow, decide_eq_true (by omega : k < 32), Bool.true_and, Bool.xor_true]
  rw [e]
  by_cases q : k = n
  · rw [if_pos q, decide_eq_true q.symm, Bool.not_true, Bool.and_false]
    rfl
  · rw [if_neg q, decide_eq_false (fun g => q g.symm), Bool.not_false, Bool.and_true]
theorem pc_sideN (H : pk_cL N z u Y) (hp : pk_PC z V T L p) : q_X8_sideNamed N Y V (z + 54) = some (tq_dI (tq_w T L p)) := by
  have hM := H.2.1
  unfold q_X8_sideNamed tq_dI
  simp only [hM, pk_ckT, pk_bs, pk_letE, pk_bd2E, pk_bd3E, if_true, if_false, eq_self, not_true_eq_false, not_false_eq_true, true_and, and_true, Nat.not_lt_zero, Nat.zero_le, Nat.reduceEqDiff, Nat.reduceLT, Nat.reduceLeDiff, pk_ck, pc_wrd H hp, show (0 < 22 ∧ 22 < 36) from by omega, show (0 < 23 ∧ 23 < 36) from by omega, show (0 < 24 ∧ 24 < 36) from by omega, show (0 < 25 ∧ 25 < 36) from by omega, pk_lit, pk_B0, tq_G, List.getD_cons_succ, List.getD_cons_zero, ite_not]
  generalize tq_w T L p = k at *
  repeat' split
  all_goals rfl
theorem tq_dI_y : ∀ c, c < 4 → tq_dI (9 + c) = nI c ∧ ¬ tq_dI (9 + c) = -1 := by decide
theorem tq_dI_n (h : ¬ (9 ≤ w ∧ w ≤ 12)) : tq_dI w = -nI 1 := by
  unfold tq_dI
  rw [if_neg (by omega), if_neg (by omega), if_neg (by omega), if_neg (by omega)]
theorem tq_d9 : ∀ w, w < 36 → (¬ (9 ≤ w ∧ w ≤ 12) → (tq_wI w - 9 < 0 ∨ (¬ tq_wI w - 9 < 0 ∧ 3 < tq_wI w - 9))) := by decide
theorem tq_d9y : ∀ c, c < 4 → tq_wI (9 + c) - 9 = nI c ∧ ¬ nI c < 0 ∧ ¬ 3 < nI c := by decide
/-- whether a hole is there, the class -/
theorem pc_isAt2 (H : pk_cL N z u Y) (h : pk_CT V u D P) (hD : pk_DB D P) (hi : i < 10000) (hs : s < 4) : ∀ m k f, k + m = D 2 0 → m < f → ((∃ j, k ≤ j ∧ j < D 2 0 ∧ D 3 j = i ∧ D 4 j = s) → q_X1_isAt_2 N Y f V (u + 3) (nI i) (nI s) (nI k) = some (nI 1)) ∧ (¬ (∃ j, k ≤ j ∧ j < D 2 0 ∧ D 3 j = i ∧ D 4 j = s) → q_X1_isAt_2 N Y f V (u + 3) (nI i) (nI s) (nI k) = some (nI 0)) := by
  obtain ⟨hN, hM, hS, hi2, u1, u2⟩ := H
  obtain ⟨a1, a2⟩ := (pk_CT_iff.mp h).2.2.1
  obtain ⟨d1, d2⟩ := (pk_DB_iff.mp hD).2.2.1
  have d0 := hD.1
  intro m
  induction m with
  | zero =>
    intro k f hk hf
    refine ⟨fun ⟨j, g1, g2, _⟩ => by omega, fun _ => ?_⟩
    rw [show f = f - 1 + 1 by omega, q_X1_isAt_2]
    simp (disch := omega) only [hS, pk_ckT, pk_bs, pk_letE, pk_bd2E, pk_bd3E, if_true, if_false, eq_self, not_true_eq_false, not_false_eq_true, true_and, and_true, Nat.not_lt_zero, Nat.zero_le, Nat.reduceEqDiff, Nat.reduceLT, Nat.reduceLeDiff, pk_ck, a1, nI_leI]
    rw [if_pos (by omega)]
    rfl
  | succ m ih =>
    intro k f hk hf
    have i1 := ih (k + 1) (f - 1) (by omega) (by omega)
    obtain ⟨b1, b2, -, -⟩ := a2 k (by omega)
    obtain ⟨c1, c2, -⟩ := d2 k (by omega)
    have e0 : q_X1_isAt_2 N Y f V (u + 3) (nI i) (nI s) (nI k) = if D 3 k = i then (if D 4 k = s then some (nI 1) else q_X1_isAt_2 N Y (f - 1) V (u + 3) (nI i) (nI s) (nI (k + 1))) else q_X1_isAt_2 N Y (f - 1) V (u + 3) (nI i) (nI s) (nI (k + 1)) := by
      obtain ⟨f', rfl⟩ : ∃ f', f = f' + 1 := ⟨f - 1, by omega⟩
      rw [q_X1_isAt_2]
      simp (disch := omega) only [hS, pk_ckT, pk_bs, pk_letE, pk_bd2E, pk_bd3E, if_true, if_false, eq_self, not_true_eq_false, not_false_eq_true, true_and, and_true, Nat.not_lt_zero, Nat.zero_le, Nat.reduceEqDiff, Nat.reduceLT, Nat.reduceLeDiff, pk_ck, a1, nI_leI, nI_clamp, pk_inE, b1, b2, nI_eq, q_X1_isAt_32, pk_lit, nI_add, Nat.add_sub_cancel]
      rw [if_neg (by omega)]
    rw [e0]
    by_cases q : D 3 k = i ∧ D 4 k = s
    · rw [if_pos q.1, if_pos q.2]
      exact ⟨fun _ => rfl, fun g => absurd ⟨k, Nat.le_refl _, by omega, q⟩ g⟩
    · have e1 : (if D 3 k = i then (if D 4 k = s then some (nI 1) else q_X1_isAt_2 N Y (f - 1) V (u + 3) (nI i) (nI s) (nI (k + 1))) else q_X1_isAt_2 N Y (f - 1) V (u + 3) (nI i) (nI s) (nI (k + 1))) = q_X1_isAt_2 N Y (f - 1) V (u + 3) (nI i) (nI s) (nI (k + 1)) := by
        by_cases q1 : D 3 k = i
        · rw [if_pos q1, if_neg (fun g => q ⟨q1, g⟩)]
        · rw [if_neg q1]
      rw [e1]
      constructor
      · rintro ⟨j, g1, g2, g3⟩
        refine i1.1 ⟨j, ?_, g2, g3⟩
        rcases (show j = k ∨ k + 1 ≤ j by omega) with g | g
        · subst g; exact absurd g3 q
        · exact g
      · exact fun g => i1.2 (fun ⟨j, g1, g2⟩ => g ⟨j, by omega, g2⟩)
theorem pc_isAt (H : pk_cL N z u Y) (h : pk_CT V u D P) (hD : pk_DB D P) (hi : i < 10000) (hs : s < 4) : (tq_at D i s → q_X1_isAt N Y V (u + 3) (nI i) (nI s) = some (nI 1)) ∧ (¬ tq_at D i s → q_X1_isAt N Y V (u + 3) (nI i) (nI s) = some (nI 0)) := by
  have hN := H.1
  have d1 := (pk_DB_iff.mp hD).2.2.1.1
  obtain ⟨i1, i2⟩ := pc_isAt2 H h hD hi hs (D 2 0) 0 N (by omega) (by omega)
  exact ⟨fun ⟨k, g1, g2⟩ => i1 ⟨k, by omega, g1, g2⟩, fun g => i2 (fun ⟨j, _, g2⟩ => g ⟨j, g2⟩)⟩
/-- a hole is added, the class -/
theorem pc_hadd (H : pk_cL N z u Y) (h : pk_LC z u V T L p D P B) (hl : D 2 0 < 6) (hd : d < 2) : ∃ V', q_X1_add N Y V (u + 3) (nI a) (nI b) (nI c) (nI d) = some V' ∧ pk_fW z u V V' ∧ pk_LC z u V' T L p (tq_Da D 2 3 6 (fun i => if i = 3 then a else if i = 4 then b else if i = 5 then c else d)) P B := by
  obtain ⟨hN, hM, hS, hi, u1, u2⟩ := H
  have e1 : bk_rI V (u + 3) 4 = nI (D 2 0) := (pk_CT_iff.mp h.2.1).2.2.1.1
  generalize hV3 : bk_wI (bk_wI (bk_wI V (u + 4) (D 2 0) (nI a)) (u + 5) (D 2 0) (nI b)) (u + 6) (D 2 0) (nI c) = V3
  have e4 : bk_rI V3 (u + 3) 4 = nI (D 2 0) := by rw [← hV3, pk_rI_ne (by omega), pk_rI_ne (by omega), pk_rI_ne (by omega)]; exact e1
  have e3 : bk_rI V3 (u + 3) 3 = bk_rI V (u + 3) 3 := by rw [← hV3, pk_rI_ne (by omega), pk_rI_ne (by omega), pk_rI_ne (by omega)]
  have key : ∀ y : Int32, (∀ k, k ≤ D 2 0 → (bk_shr y (nI k)) &&& nI 1 = if k = D 2 0 then nI d else (bk_shr (bk_rI V (u + 3) 3) (nI k)) &&& nI 1) → pk_fW z u V (bk_wI (bk_wI V3 (u + 3) 3 y) (u + 3) 4 (nI (D 2 0 + 1))) ∧ pk_LC z u (bk_wI (bk_wI V3 (u + 3) 3 y) (u + 3) 4 (nI (D 2 0 + 1))) T L p (tq_Da D 2 3 6 (fun i => if i = 3 then a else if i = 4 then b else if i = 5 then c else d)) P B := by
    intro y hy
    subst hV3
    refine ⟨((((pk_fW.wI (by omega)).tr (pk_fW.wI (by omega))).tr (pk_fW.wI (by omega))).tr (pk_fW.wI (by omega))).tr (pk_fW.wI (by omega)), h.rows u1 u2 (fun x q => by rw [pk_rowI (by omega), pk_rowI (by omega), pk_rowI (by omega), pk_rowI (by omega), pk_rowI (by omega)]) (h.2.1.w3 (fun a q1 q2 q3 q4 => by rw [pk_rowI (by omega), pk_rowI (by omega), pk_rowI (by omega), pk_rowI (by omega), pk_rowI (by omega)]) (by rw [pk_rI_same, if_pos rfl]) (fun k => ?_) (fun k => ?_) (fun k => ?_) (fun k hk => ?_))⟩
    · rw [pk_rI_ne (by omega), pk_rI_ne (by omega), pk_rI_ne (by omega), pk_rI_ne (by omega), pk_rI_same]; rfl
    · rw [pk_rI_ne (by omega), pk_rI_ne (by omega), pk_rI_ne (by omega), pk_rI_same, pk_rI_ne (by omega)]; rfl
    · rw [pk_rI_ne (by omega), pk_rI_ne (by omega), pk_rI_same, pk_rI_ne (by omega), pk_rI_ne (by omega)]; rfl
    · rw [pk_rI_same, if_neg (by omega), pk_rI_same, if_pos rfl]
      exact hy k hk
  have e0 : q_X1_add N Y V (u + 3) (nI a) (nI b) (nI c) (nI d) = if nI d = nI 0 then some (bk_wI (bk_wI V3 (u + 3) 3 (bk_rI V (u + 3) 3 &&& ((bk_shl (nI 1) (nI (D 2 0))) ^^^ -nI 1))) (u + 3) 4 (nI (D 2 0 + 1))) else some (bk_wI (bk_wI V3 (u + 3) 3 (bk_rI V (u + 3) 3 ||| bk_shl (nI 1) (nI (D 2 0)))) (u + 3) 4 (nI (D 2 0 + 1))) := by
    have g1 : bk_rI (bk_wI V (u + 4) (D 2 0) (nI a)) (u + 3) 4 = nI (D 2 0) := (pk_rI_ne (by omega)).trans e1
    have g2 : bk_rI (bk_wI (bk_wI V (u + 4) (D 2 0) (nI a)) (u + 5) (D 2 0) (nI b)) (u + 3) 4 = nI (D 2 0) := (pk_rI_ne (by omega)).trans g1
    have g3 : ∀ y : Int32, bk_rI (bk_wI V3 (u + 3) 3 y) (u + 3) 4 = nI (D 2 0) := fun y => by rw [pk_rI_same, if_neg (by omega)]; exact e4
    unfold q_X1_add
    rw [e1]
    simp (disch := omega) only [hS, pk_ckT, pk_bs, pk_letE, pk_bd2E, pk_bd3E, if_true, if_false, eq_self, not_true_eq_false, not_false_eq_true, true_and, and_true, Nat.not_lt_zero, Nat.zero_le, Nat.reduceEqDiff, Nat.reduceLT, Nat.reduceLeDiff, pk_ck, pk_lit, nI_leI, nI_clamp, pk_inE, g1, g2, hV3, e4, e3, q_X1_add_72, g3, nI_add]
    rw [if_neg (by omega)]
  rw [e0]
  rcases (show d = 0 ∨ d = 1 by omega) with q | q <;> subst q
  · obtain ⟨k1, k2⟩ := key _ (fun k hk => pk_bitAn (bk_rI V (u + 3) 3) (n := D 2 0) (k := k) (by omega) (by omega))
    exact ⟨_, if_pos rfl, k1, k2⟩
  · obtain ⟨k1, k2⟩ := key _ (fun k hk => pk_bitOr (bk_rI V (u + 3) 3) (n := D 2 0) (k := k) (by omega) (by omega))
    exact ⟨_, if_neg (by decide), k1, k2⟩
end
