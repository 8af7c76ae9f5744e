/-! the lines: outcomes; settings -/
abbrev pk_O : Type := Nat × Nat × (Nat → Nat → Nat) × (Nat → List Nat) × (Nat → Bool)
def pk_oC (z u : Nat) (T : Nat → Nat) (L : Nat) (V : bk_Val) (X : Option (Int32 × bk_Val)) (o : pk_O) : Prop := (o.1 = 0 ∧ ∃ V', X = some (nI 1, V') ∧ pk_fW z u V V' ∧ pk_LC z u V' T L o.2.1 o.2.2.1 o.2.2.2.1 o.2.2.2.2) ∨ (o.1 ≠ 0 ∧ ∃ V', X = some (nI 0, V') ∧ pk_fW z u V V' ∧ pk_FC z V' o.1 o.2.1)
def pk_oK (N : Nat) (Y : bk_Lay) (r : Nat) (T : Nat → Nat) (L : Nat) (V : bk_Val) (X : Option bk_Val) (o : pk_O) : Prop := (o.1 = 0 ∧ ∃ V', X = q_X12_line0_384 N Y V' r ∧ pk_frW r V V' ∧ pk_LR r V' T L o.2.1 o.2.2.1 o.2.2.2.1 o.2.2.2.2) ∨ (o.1 ≠ 0 ∧ ∃ V', X = some V' ∧ pk_frW r V V' ∧ pk_FR r V' o.1 o.2.1)
def pk_oR (r : Nat) (T : Nat → Nat) (L : Nat) (V : bk_Val) (X : Option bk_Val) (o : pk_O) : Prop := (o.1 = 0 ∧ ∃ V', X = some V' ∧ pk_frW r V V' ∧ pk_LR r V' T L o.2.1 o.2.2.1 o.2.2.2.1 o.2.2.2.2) ∨ (o.1 ≠ 0 ∧ ∃ V', X = some V' ∧ pk_frW r V V' ∧ pk_FR r V' o.1 o.2.1)
def pk_oB (L p : Nat) (o : pk_O) : Prop := o.1 = 0 → p < o.2.1 ∧ o.2.1 ≤ L ∧ pk_DB o.2.2.1 o.2.2.2.1 ∧ (o.2.2.2.2 8 = false → o.2.2.2.1 0 = []) ∧ (o.2.2.2.2 9 = false → o.2.2.2.1 1 = [])
def tq_oF (k e : Nat) : pk_O := (k, e, fun _ _ => 0, fun _ => [], fun _ => false)
def tq_tl (T : Nat → Nat) (L : Nat) (o : pk_O) : pk_O := if o.1 = 0 then (if tq_sn T L o.2.1 59 then (0, tq_e T L o.2.1, o.2.2) else tq_oF 1 (tq_s T L o.2.1)) else o
def tq_l8 (k : Nat) : Nat := if k = 0 then 12 else if k = 5 then 0 else if k = 6 then 0 else 1
def tq_h8 (D : Nat → Nat → Nat) (k : Nat) : Nat := if k = 0 then 84 else if k = 1 then 9 else if k = 4 then 100 else if k = 5 then D 0 0 - 1 else 99
def tq_sI (w : Nat) : Int32 := if w = 20 then nI 1 else if w = 21 then nI 2 else if w = 22 then nI 3 else if w = 4 then nI 4 else if w = 23 then nI 5 else if w = 24 then nI 6 else -nI 1
/-- one line: both answer alike -/
def pk_ln (N z u r : Nat) (Y : bk_Lay) (T : Nat → Nat) (L p : Nat) (D : Nat → Nat → Nat) (P : Nat → List Nat) (B : Nat → Bool) : Prop := ∃ o, pk_oB L p o ∧ (∀ V, pk_LC z u V T L p D P B → pk_oC z u T L V (q_X8_readLine N Y V (z + 54)) (tq_tl T L o)) ∧ ∀ Y2 V, pk_Rf Y2 r → pk_LR r V T L p D P B → pk_oK N Y2 r T L V (q_X12_line0 N Y2 V r) o
/-- what holds at each line -/
def pk_lH (N z u : Nat) (Y : bk_Lay) (T : Nat → Nat) (L p : Nat) (D : Nat → Nat → Nat) (P : Nat → List Nat) (B : Nat → Bool) : Prop := 2000 ≤ N ∧ pk_cL N z u Y ∧ L ≤ 700 ∧ p ≤ L ∧ pk_DB D P ∧ (B 8 = false → P 0 = []) ∧ (B 9 = false → P 1 = []) ∧ tq_k T L p ≠ 0
section
variable {N z t u s r a b c d k n j h m l p q q0 md wa s' i f e gg v S L g lo hi w : Nat} {Y Y2 Y' : bk_Lay} {V V' V1 V2 : bk_Val} {x y x1 x2 x3 x4 x5 ee : Int32} {T T' R G In : Nat → Nat} {D D' : Nat → Nat → Nat} {P P' : Nat → List Nat} {B B' : Nat → Bool} {K : List Nat} {o : pk_O} {X : Option (Int32 × bk_Val)} {XR : Option bk_Val}
theorem pk_oC.fr (h : pk_oC z u T L V1 X o) (f : pk_fW z u V V1) : pk_oC z u T L V X o := by
  rcases h with ⟨a, V', b, c, d⟩ | ⟨a, V', b, c, d⟩
  · exact Or.inl ⟨a, V', b, f.tr c, d⟩
  · exact Or.inr ⟨a, V', b, f.tr c, d⟩
theorem pk_oK.fr (h : pk_oK N Y r T L V1 XR o) (f : pk_frW r V V1) : pk_oK N Y r T L V XR o := by
  rcases h with ⟨a, V', b, c, d⟩ | ⟨a, V', b, c, d⟩
  · exact Or.inl ⟨a, V', b, f.tr c, d⟩
  · exact Or.inr ⟨a, V', b, f.tr c, d⟩
theorem tq_tlF (hk : k ≠ 0) : tq_tl T L (tq_oF k e) = tq_oF k e := if_neg hk
theorem pk_oB.F (hk : k ≠ 0) : pk_oB L p (tq_oF k e) := fun g => absurd g hk
theorem pk_oC.F (hk : k ≠ 0) (h1 : X = some (nI 0, V')) (h2 : pk_fW z u V V') (h3 : pk_FC z V' k e) : pk_oC z u T L V X (tq_oF k e) := Or.inr ⟨hk, V', h1, h2, h3⟩
theorem pk_oK.F (hk : k ≠ 0) (h1 : XR = some V') (h2 : pk_frW r V V') (h3 : pk_FR r V' k e) : pk_oK N Y r T L V XR (tq_oF k e) := Or.inr ⟨hk, V', h1, h2, h3⟩
theorem pc_sgn (H : pk_cL N z u Y) (h : pk_oC z u T L V X o) : pk_oC z u T L V (bk_bd2 X (fun r_98 V_99 => if r_98 = nI 0 then some (nI 0, V_99) else bk_bd2 (q_X8_readSign N Y V_99 (z + 54) (nI 59)) (fun r_26 V_27 => if r_26 = nI 0 then some (nI 0, V_27) else some (nI 1, V_27)))) (tq_tl T L o) := by
  unfold tq_tl
  rcases h with ⟨a, V', b, c, d⟩ | ⟨a, V', b, c, d⟩
  · rw [if_pos a, b, pk_bd2E, if_neg (show ¬ nI 1 = nI 0 by decide)]
    obtain ⟨t1, t2⟩ := pc_tail (N := N) H d
    by_cases q : tq_sn T L o.2.1 59
    · rw [if_pos q]
      obtain ⟨V2, e1, e2, e3⟩ := t1 q
      exact Or.inl ⟨rfl, V2, e1, c.tr e2, e3⟩
    · rw [if_neg q]
      obtain ⟨V2, e1, e2, e3⟩ := t2 q
      exact pk_oC.F (by omega) e1 (c.tr e2) e3
  · rw [if_neg a, b, pk_bd2E, if_pos rfl]
    exact Or.inr ⟨a, V', rfl, c, d⟩
theorem pr_sgn (hN : 1000 ≤ N) (hS : pk_Rf Y r) (h : pk_oK N Y r T L V XR o) : pk_oR r T L V XR (tq_tl T L o) := by
  unfold tq_tl
  rcases h with ⟨a, V', b, c, d⟩ | ⟨a, V', b, c, d⟩
  · rw [if_pos a, b]
    obtain ⟨t1, t2⟩ := pr_tail (N := N) hN hS d
    by_cases q : tq_sn T L o.2.1 59
    · rw [if_pos q]
      obtain ⟨V2, e1, e2, e3⟩ := t1 q
      exact Or.inl ⟨rfl, V2, e1, c.tr e2, e3⟩
    · rw [if_neg q]
      obtain ⟨V2, e1, e2, e3⟩ := t2 q
      exact Or.inr ⟨by show ¬ (1 : Nat) = 0; omega, V2, e1, c.tr e2, e3⟩
  · rw [if_neg a]
    exact Or.inr ⟨a, V', b, c, d⟩
theorem pk_oB.tl (hL : L ≤ 700) (h : pk_oB L p o) : pk_oB L p (tq_tl T L o) := by
  unfold tq_tl
  by_cases a : o.1 = 0
  · rw [if_pos a]
    obtain ⟨h1, h2, h3⟩ := h a
    by_cases q : tq_sn T L o.2.1 59
    · rw [if_pos q]
      intro _
      have := tq_e_gt (T := T) hL h2 (by have := q.1; omega)
      exact ⟨by show p < tq_e T L o.2.1; omega, tq_e_le hL h2, h3⟩
    · rw [if_neg q]
      exact pk_oB.F (by omega)
  · rw [if_neg a]
    exact h
/-- a sign's test always ends -/
theorem pr_sgE (hS : pk_Rf Y r) : ∃ y, q_X12_isSign N Y V r x = some y := by
  unfold q_X12_isSign
  rw [pk_ck hS.1]
  split
  · split
    · exact ⟨_, rfl⟩
    · exact ⟨_, rfl⟩
  · exact ⟨_, rfl⟩
theorem pr_384F (hS : pk_Rf Y r) (h : pk_FR r V k e) : q_X12_line0_384 N Y V r = some V := pr_tailF hS (pr_sgE hS) h
theorem pc_wrd (H : pk_cL N z u Y) (hp : pk_PC z V T L p) (hg : 0 < g ∧ g < 36) : q_X9_isWord N Y V (z + 55) g = some (pk_B (tq_w T L p = tq_G.getD g 99)) := pc_isWord H.1 H.2.1 hp.1 hp.2.1 hp.2.2.1 hg
theorem pc_setN (H : pk_cL N z u Y) (hp : pk_PC z V T L p) : q_X8_settingNamed N Y V (z + 54) = some (tq_sI (tq_w T L p)) := by
  have hM := H.2.1
  unfold q_X8_settingNamed tq_sI
  simp only [hM, pk_ckT, pk_bs, pk_letE, pk_bd2E, pk_bd3E, if_true, if_false, eq_self, not_true_eq_false, not_false_eq_true, true_and, and_true, Nat.not_lt_zero, Nat.zero_le, Nat.reduceEqDiff, Nat.reduceLT, Nat.reduceLeDiff, pk_ck, pc_wrd H hp, show (0 < 2 ∧ 2 < 36) from by omega, show (0 < 3 ∧ 3 < 36) from by omega, show (0 < 4 ∧ 4 < 36) from by omega, show (0 < 5 ∧ 5 < 36) from by omega, show (0 < 6 ∧ 6 < 36) from by omega, show (0 < 7 ∧ 7 < 36) from by omega, pk_lit, pk_B0, tq_G, List.getD_cons_succ, List.getD_cons_zero, ite_not]
  generalize tq_w T L p = k at *
  repeat' split
  all_goals rfl
theorem tq_sI_wd : ∀ b, b < 7 → 1 ≤ b → tq_sI (tq_wd b) = nI b ∧ ¬ tq_sI (tq_wd b) = -1 := by decide
/-- a line that sets -/
theorem pc_lineS (H : pk_cL N z u Y) (hp : pk_PC z V T L p) (hb : 1 ≤ b ∧ b ≤ 6) (hw : tq_w T L p = tq_wd b) : q_X8_readLine N Y V (z + 54) = bk_bd2 (q_X8_readOnce N Y V (z + 54) (nI b)) (fun r_95 V_96 => if r_95 = nI 0 then some (nI 0, V_96) else bk_bd2 (q_X8_readSettings N Y V_96 (z + 54) (nI b)) (fun r_98 V_99 => if r_98 = nI 0 then some (nI 0, V_99) else bk_bd2 (q_X8_readSign N Y V_99 (z + 54) (nI 59)) (fun r_26 V_27 => if r_26 = nI 0 then some (nI 0, V_27) else some (nI 1, V_27)))) := by
  have hM := H.2.1
  obtain ⟨e1, e2⟩ := tq_sI_wd b (by omega) hb.1
  unfold q_X8_readLine
  simp only [hM, pk_ckT, pk_bs, pk_letE, pk_bd2E, pk_bd3E, if_true, if_false, eq_self, not_true_eq_false, not_false_eq_true, true_and, and_true, Nat.not_lt_zero, Nat.zero_le, Nat.reduceEqDiff, Nat.reduceLT, Nat.reduceLeDiff, pk_ck, pc_setN H hp, hw]
  rw [if_neg e2, e1]
  rfl
theorem bk_l8 : ∀ k, k < 8 → bk_least.getD k 0 = nI (tq_l8 k) := by decide
theorem bk_l8' (h : k < 8) : bk_least.getD k (nI 0) = nI (tq_l8 k) := bk_l8 k h
theorem bk_h8 : ∀ k, k < 8 → k ≠ 5 → bk_most.getD k 0 = nI (tq_h8 (fun _ _ => 0) k) := by decide
theorem tq_h8_e (h : k ≠ 5) : tq_h8 D k = tq_h8 D' k := by
  unfold tq_h8
  rw [if_neg h, if_neg h]
theorem tq_h8_b (h : D 0 0 ≤ 84) : tq_h8 D k < 10000 ∧ tq_l8 k < 10000 := by
  unfold tq_h8 tq_l8
  constructor <;> repeat' split
  all_goals omega
/-- a setting's number -/
theorem pc_iter0 (H : pk_cL N z u Y) (h : pk_LC z u V T L p D P B) (hk : k ≤ l) (hl : l < 8) (hD : pk_DB D P) : q_X8_readSettings_15 N Y (n + 1) V (z + 54) (nI l) (nI k) = bk_bd2 (q_X8_readNumber N Y V (z + 54) (nI (tq_l8 k)) (nI (tq_h8 D k))) fun r_3 V_4 => if r_3 = nI 0 then some (nI 0, V_4) else q_X8_readSettings_15 N Y n (bk_wI V_4 (u + 1) k (bk_rI V_4 (z + 54) 3)) (z + 54) (nI l) (nI (k + 1)) := by
  obtain ⟨hN, hM, hS, hi, u1, u2⟩ := H
  have d0 := hD.1
  have e00 : bk_rI V (u + 1) 0 = nI (D 0 0) := h.2.1.1 0 (by omega)
  have e48 : ∀ y : Int32, q_X8_readSettings_48 N Y (q_X8_readSettings_15 N Y n) V (z + 54) (nI l) (nI k) y = bk_bd2 (q_X8_readNumber N Y V (z + 54) (nI (tq_l8 k)) y) fun r_3 V_4 => if r_3 = nI 0 then some (nI 0, V_4) else q_X8_readSettings_15 N Y n (bk_wI V_4 (u + 1) k (bk_rI V_4 (z + 54) 3)) (z + 54) (nI l) (nI (k + 1)) := by
    intro y
    unfold q_X8_readSettings_48
    simp (disch := omega) only [hM, hS, hi, pk_ckT, pk_bs, pk_letE, pk_bd2E, pk_bd3E, if_true, if_false, eq_self, not_true_eq_false, not_false_eq_true, true_and, and_true, Nat.not_lt_zero, Nat.zero_le, Nat.reduceEqDiff, Nat.reduceLT, Nat.reduceLeDiff, pk_ck, pk_lit, nI_clamp, pk_inE, bk_l8', nI_add]
  rw [q_X8_readSettings_15, if_neg (show ¬ nI l < nI k by rw [nI_ltI (by omega) (by omega)]; omega), if_neg (show ¬ (8 : Int32) ≤ nI k from (show ¬ nI 8 ≤ nI k by rw [nI_leI (by omega) (by omega)]; omega))]
  by_cases q : k = 5
  · rw [if_pos (show nI k = (5 : Int32) from (by rw [q]; rfl))]
    have ei : q_X5_inches N Y V u = some (nI (D 0 0)) := by
      unfold q_X5_inches
      simp (disch := omega) only [hS, pk_ckT, pk_bs, pk_letE, pk_bd2E, pk_bd3E, if_true, if_false, eq_self, not_true_eq_false, not_false_eq_true, true_and, and_true, Nat.not_lt_zero, Nat.zero_le, Nat.reduceEqDiff, Nat.reduceLT, Nat.reduceLeDiff, pk_ck, pk_lit, nI_clamp, pk_inE, e00]
    have e1 : nI (D 0 0) - nI 1 = nI (tq_h8 D k) := by
      rw [pk_sub (by omega)]
      unfold tq_h8
      rw [q]
      rfl
    simp (disch := omega) only [hM, hS, hi, pk_ckT, pk_bs, pk_letE, pk_bd2E, pk_bd3E, if_true, if_false, eq_self, not_true_eq_false, not_false_eq_true, true_and, and_true, Nat.not_lt_zero, Nat.zero_le, Nat.reduceEqDiff, Nat.reduceLT, Nat.reduceLeDiff, pk_ck, pk_lit, ei, e1, e48]
  · rw [if_neg (show ¬ nI k = (5 : Int32) from (show ¬ nI k = nI 5 by rw [nI_eq (by omega) (by omega)]; exact q)), pk_ck (show bk_in (nI k) 8 by rw [pk_inE (by omega)]; omega), nI_clamp (by omega), bk_h8 k (by omega) q, tq_h8_e (D' := D) q, e48]
theorem pc_iter (H : pk_cL N z u Y) (h : pk_LC z u V T L p D P B) (hk : k ≤ l) (hl : l < 8) (hD : pk_DB D P) : (tq_no T L p (tq_l8 k) (tq_h8 D k) = 0 → ∃ V', q_X8_readSettings_15 N Y (n + 1) V (z + 54) (nI l) (nI k) = q_X8_readSettings_15 N Y n V' (z + 54) (nI l) (nI (k + 1)) ∧ pk_fW z u V V' ∧ pk_LC z u V' T L (tq_e T L p) (tq_D D 0 k (tq_v T L p)) P B) ∧ (tq_no T L p (tq_l8 k) (tq_h8 D k) ≠ 0 → ∃ V', q_X8_readSettings_15 N Y (n + 1) V (z + 54) (nI l) (nI k) = some (nI 0, V') ∧ pk_fW z u V V' ∧ pk_FC z V' (tq_no T L p (tq_l8 k) (tq_h8 D k)) (tq_s T L p)) := by
  have e0 := pc_iter0 (n := n) H h hk hl hD
  obtain ⟨hN, hM, hS, hi, u1, u2⟩ := H
  have hb := tq_h8_b (D := D) (k := k) (by have := hD.1; omega)
  obtain ⟨n1, n2⟩ := pc_num (N := N) hN hM h.1 hb.2 hb.1
  constructor
  · intro q
    obtain ⟨V1, b1, b2, b3, b4⟩ := n1 q
    have h1 := h.fN b2 u2 b4
    refine ⟨bk_wI V1 (u + 1) k (nI (tq_v T L p)), ?_, b2.fW.tr (pk_fW.wI (by omega)), ⟨⟨fun j hj => by rw [pk_rI_ne (by omega)]; exact h1.1.1.1 j hj, h1.1.1.2⟩, ⟨(pk_rI_ne (by omega)).trans h1.1.2.1.1, (pk_rI_ne (by omega)).trans h1.1.2.1.2.1, (pk_rI_ne (by omega)).trans h1.1.2.1.2.2.1, (pk_rI_ne (by omega)).trans h1.1.2.1.2.2.2⟩, h1.1.2.2.1, (pk_rI_ne (by omega)).trans h1.1.2.2.2⟩, h1.2.1.w1, ?_⟩
    · rw [e0, b1, pk_bd2E, if_neg (show ¬ nI 1 = nI 0 by decide), b3]
    · obtain ⟨s, c1, c2⟩ := h1.2.2
      exact ⟨s, (pk_rI_ne (by omega)).trans c1, c2⟩
  · intro q
    obtain ⟨V1, b1, b2, b3⟩ := n2 q
    exact ⟨V1, by rw [e0, b1, pk_bd2E, if_pos rfl], b2.fW, b3⟩
theorem pc_iterE (hl : l < 8) : q_X8_readSettings_15 N Y (n + 1) V a (nI l) (nI (l + 1)) = some (nI 1, V) := by
  rw [q_X8_readSettings_15, if_pos (show nI l < nI (l + 1) by rw [nI_ltI (by omega) (by omega)]; omega)]
  rfl
theorem pc_setE (hb : b ≠ 6) (hb2 : b < 8) : q_X8_readSettings N Y V a (nI b) = q_X8_readSettings_15 N Y N V a (nI b) (nI b) := by
  unfold q_X8_readSettings q_X8_readSettings_12
  rw [if_neg (show ¬ nI b = (6 : Int32) from (show ¬ nI b = nI 6 by rw [nI_eq (by omega) (by omega)]; exact hb))]
theorem pc_set6 : q_X8_readSettings N Y V a (nI 6) = q_X8_readSettings_15 N Y N V a (nI 7) (nI 6) := by
  unfold q_X8_readSettings q_X8_readSettings_12
  rw [if_pos (show nI 6 = (6 : Int32) from rfl)]
  rfl
theorem pc_set (H : pk_cL N z u Y) (h : pk_LC z u V T L p D P B) (hb : b ≠ 6) (hb2 : b < 8) (hD : pk_DB D P) : pk_oC z u T L V (q_X8_readSettings N Y V (z + 54) (nI b)) (if tq_no T L p (tq_l8 b) (tq_h8 D b) = 0 then (0, tq_e T L p, tq_D D 0 b (tq_v T L p), P, B) else tq_oF (tq_no T L p (tq_l8 b) (tq_h8 D b)) (tq_s T L p)) := by
  rw [pc_setE hb hb2]
  have hN := H.1
  obtain ⟨i1, i2⟩ := pc_iter (n := N - 1) (l := b) (k := b) H h (Nat.le_refl _) hb2 hD
  rw [show N - 1 + 1 = N by omega] at i1 i2
  by_cases q : tq_no T L p (tq_l8 b) (tq_h8 D b) = 0
  · rw [if_pos q]
    obtain ⟨V', e1, e2, e3⟩ := i1 q
    refine Or.inl ⟨rfl, V', ?_, e2, e3⟩
    rw [e1, show N - 1 = N - 2 + 1 by omega, pc_iterE hb2]
  · rw [if_neg q]
    obtain ⟨V', e1, e2, e3⟩ := i2 q
    exact pk_oC.F q e1 e2 e3
theorem pr_set (hN : 1000 ≤ N) (hS : pk_Rf Y r) (h : pk_LR r V T L p D P B) (hk : k < 8) (hlo : lo < 10000) (hhi : hi < 10000) : ∃ V', q_X12_number N Y V r (nI lo) (nI hi) = some (nI (tq_v T L p), V') ∧ pk_frW r V (bk_wI V' r (32 + k) (nI (tq_v T L p))) ∧ (tq_no T L p lo hi = 0 → pk_LR r (bk_wI V' r (32 + k) (nI (tq_v T L p))) T L (tq_e T L p) (tq_D D 0 k (tq_v T L p)) P B) ∧ (tq_no T L p lo hi ≠ 0 → pk_FR r (bk_wI V' r (32 + k) (nI (tq_v T L p))) (tq_no T L p lo hi) (tq_s T L p)) := by
  obtain ⟨n1, n2⟩ := pr_num (N := N) hN hS h.1 hlo hhi
  by_cases q : tq_no T L p lo hi = 0
  · obtain ⟨V', e1, e2, e3⟩ := n1 q
    have hk2 : tq_k T L p ≠ 0 := fun g => by
      unfold tq_no at q
      rw [g] at q
      rw [if_neg (by omega)] at q
      omega
    have ge := tq_e_gt (T := T) h.1.1.2.2.1 h.1.2.2.1 hk2
    obtain ⟨a1, a2, ⟨K, a3, a4⟩, a5⟩ := h.frT e2 e3 (by omega)
    refine ⟨V', e1, e2.toW.tr (pk_frW.ws (by omega)), fun _ => ⟨a1.off (fun j hj => by rw [pk_rI_same, if_neg (by omega)]) (pk_rowI (by omega)) rfl, a2.w1 hk, ⟨K, a3.of (fun j q1 q2 _ => by rw [pk_rI_same, if_neg (by omega)]) (pk_rowI (by omega)), a4⟩, a5.of (by rw [pk_rI_same, if_neg (by omega)]) rfl⟩, fun g => absurd q g⟩
  · obtain ⟨V', e1, e2, e3⟩ := n2 q
    exact ⟨V', e1, e2.toW.tr (pk_frW.ws (by omega)), fun g => absurd g q, fun _ => e3.off (fun j hj => by rw [pk_rI_same, if_neg (by omega)])⟩
theorem pk_lH.ends (H : pk_lH N z u Y T L p D P B) : p < tq_e T L p ∧ tq_e T L p ≤ L := by
  obtain ⟨-, -, hL, hp, -, -, -, hk⟩ := H
  have := tq_e_gt (T := T) hL hp hk
  have := tq_e_le (T := T) hL hp
  omega
theorem tq_no0 (h : tq_no T L p lo hi = 0) : tq_k T L p ≠ 0 ∧ lo ≤ tq_v T L p ∧ tq_v T L p ≤ hi := by
  unfold tq_no at h
  split at h
  · rename_i g
    split at h
    · rename_i g2
      exact ⟨by omega, g2.2.1, g2.2.2⟩
    · omega
  · omega
theorem tq_B_8 (hb : b ≠ 8) (h : B 8 = false → P 0 = []) : tq_B B b 8 = false → P 0 = [] := by
  unfold tq_B
  rw [if_neg (fun g => hb g.symm)]
  exact h
theorem tq_B_9 (hb : b ≠ 9) (h : B 9 = false → P 1 = []) : tq_B B b 9 = false → P 1 = [] := by
  unfold tq_B
  rw [if_neg (fun g => hb g.symm)]
  exact h
theorem tq_lt_7 : ∀ b, b < 7 → 1 ≤ b → (tq_wd b < 35 ∧ tq_wI (tq_wd b) = nI (tq_wd b)) := by decide
theorem pr_lineB1 (hN : 1000 ≤ N) (hS : pk_Rf Y r) (h : pk_PR r V T L p) (hw : tq_w T L p = 20) : q_X12_line0 N Y V r = bk_bd2 (q_X12_begins N Y V r (nI 20)) (fun r_121 V_122 => if r_121 = nI 0 then q_X12_line0_384 N Y V_122 r else bk_bd2 (q_X12_number N Y V_122 r (nI 1) (nI 9)) (fun r_124 V_125 => q_X12_line0_384 N Y (bk_wI V_125 r 33 r_124) r)) := by
  unfold q_X12_line0
  rw [pk_ck hS.1, pr_known hN hS h.1.2.2.1 h.2.2.1 h.2.1, pk_bs, hw, show tq_wI 20 = nI 20 from rfl, if_neg (show ¬ nI 20 = (18 : Int32) by decide), if_pos (show nI 20 = (20 : Int32) from rfl)]
  simp only [pk_letE, pk_lit]
theorem pr_lineB2 (hN : 1000 ≤ N) (hS : pk_Rf Y r) (h : pk_PR r V T L p) (hw : tq_w T L p = 21) : q_X12_line0 N Y V r = bk_bd2 (q_X12_begins N Y V r (nI 21)) (fun r_121 V_122 => if r_121 = nI 0 then q_X12_line0_384 N Y V_122 r else bk_bd2 (q_X12_number N Y V_122 r (nI 1) (nI 99)) (fun r_124 V_125 => q_X12_line0_384 N Y (bk_wI V_125 r 34 r_124) r)) := by
  unfold q_X12_line0
  rw [pk_ck hS.1, pr_known hN hS h.1.2.2.1 h.2.2.1 h.2.1, pk_bs, hw, show tq_wI 21 = nI 21 from rfl, if_neg (show ¬ nI 21 = (18 : Int32) by decide), if_neg (show ¬ nI 21 = (20 : Int32) by decide), if_pos (show nI 21 = (21 : Int32) from rfl)]
  simp only [pk_letE, pk_lit]
theorem pr_lineB3 (hN : 1000 ≤ N) (hS : pk_Rf Y r) (h : pk_PR r V T L p) (hw : tq_w T L p = 22) : q_X12_line0 N Y V r = bk_bd2 (q_X12_begins N Y V r (nI 22)) (fun r_121 V_122 => if r_121 = nI 0 then q_X12_line0_384 N Y V_122 r else bk_bd2 (q_X12_number N Y V_122 r (nI 1) (nI 99)) (fun r_124 V_125 => q_X12_line0_384 N Y (bk_wI V_125 r 35 r_124) r)) := by
  unfold q_X12_line0
  rw [pk_ck hS.1, pr_known hN hS h.1.2.2.1 h.2.2.1 h.2.1, pk_bs, hw, show tq_wI 22 = nI 22 from rfl, if_neg (show ¬ nI 22 = (18 : Int32) by decide), if_neg (show ¬ nI 22 = (20 : Int32) by decide), if_neg (show ¬ nI 22 = (21 : Int32) by decide), if_pos (show nI 22 = (22 : Int32) from rfl)]
  simp only [pk_letE, pk_lit]
theorem pr_lineB4 (hN : 1000 ≤ N) (hS : pk_Rf Y r) (h : pk_PR r V T L p) (hw : tq_w T L p = 4) : q_X12_line0 N Y V r = bk_bd2 (q_X12_begins N Y V r (nI 4)) (fun r_121 V_122 => if r_121 = nI 0 then q_X12_line0_384 N Y V_122 r else bk_bd2 (q_X12_number N Y V_122 r (nI 1) (nI 100)) (fun r_124 V_125 => q_X12_line0_384 N Y (bk_wI V_125 r 36 r_124) r)) := by
  unfold q_X12_line0
  rw [pk_ck hS.1, pr_known hN hS h.1.2.2.1 h.2.2.1 h.2.1, pk_bs, hw, show tq_wI 4 = nI 4 from rfl, if_neg (show ¬ nI 4 = (18 : Int32) by decide), if_neg (show ¬ nI 4 = (20 : Int32) by decide), if_neg (show ¬ nI 4 = (21 : Int32) by decide), if_neg (show ¬ nI 4 = (22 : Int32) by decide), if_pos (show nI 4 = (4 : Int32) from rfl)]
  simp only [pk_letE, pk_lit]
theorem pr_lineB5 (hN : 1000 ≤ N) (hS : pk_Rf Y r) (h : pk_PR r V T L p) (hw : tq_w T L p = 23) : q_X12_line0 N Y V r = bk_bd2 (q_X12_begins N Y V r (nI 23)) (fun r_121 V_122 => if r_121 = nI 0 then q_X12_line0_384 N Y V_122 r else bk_bd2 (q_X12_number N Y V_122 r (nI 0) (bk_rI V_122 r 32 - nI 1)) (fun r_124 V_125 => q_X12_line0_384 N Y (bk_wI V_125 r 37 r_124) r)) := by
  unfold q_X12_line0
  rw [pk_ck hS.1, pr_known hN hS h.1.2.2.1 h.2.2.1 h.2.1, pk_bs, hw, show tq_wI 23 = nI 23 from rfl, if_neg (show ¬ nI 23 = (18 : Int32) by decide), if_neg (show ¬ nI 23 = (20 : Int32) by decide), if_neg (show ¬ nI 23 = (21 : Int32) by decide), if_neg (show ¬ nI 23 = (22 : Int32) by decide), if_neg (show ¬ nI 23 = (4 : Int32) by decide), if_pos (show nI 23 = (23 : Int32) from rfl)]
  simp only [pk_letE, pk_lit]
theorem pr_lineB6 (hN : 1000 ≤ N) (hS : pk_Rf Y r) (h : pk_PR r V T L p) (hw : tq_w T L p = 24) : q_X12_line0 N Y V r = bk_bd2 (q_X12_begins N Y V r (nI 24)) (fun r_66 V_67 => if r_66 = nI 0 then some V_67 else bk_bd2 (q_X12_number N Y V_67 r (nI 0) (nI 99)) (fun r_69 V_70 => bk_bd2 (q_X12_number N Y (bk_wI V_70 r 38 r_69) r (nI 1) (nI 99)) (fun r_74 V_75 => q_X12_line0_384 N Y (bk_wI V_75 r 39 r_74) r))) := by
  unfold q_X12_line0
  rw [pk_ck hS.1, pr_known hN hS h.1.2.2.1 h.2.2.1 h.2.1, pk_bs, hw, show tq_wI 24 = nI 24 from rfl, if_neg (show ¬ nI 24 = (18 : Int32) by decide), if_neg (show ¬ nI 24 = (20 : Int32) by decide), if_neg (show ¬ nI 24 = (21 : Int32) by decide), if_neg (show ¬ nI 24 = (22 : Int32) by decide), if_neg (show ¬ nI 24 = (4 : Int32) by decide), if_neg (show ¬ nI 24 = (23 : Int32) by decide), if_pos (show nI 24 = (24 : Int32) from rfl)]
  simp only [pk_letE, pk_lit]
theorem pr_lineB (hN : 1000 ≤ N) (hS : pk_Rf Y r) (h : pk_LR r V T L p D P B) (hD : pk_DB D P) (hk : tq_k T L p ≠ 0) (hb : 1 ≤ b ∧ b ≤ 5) (hw : tq_w T L p = tq_wd b) : pk_oK N Y r T L V (q_X12_line0 N Y V r) (if B b = true then tq_oF 5 (tq_s T L p) else if tq_no T L (tq_e T L p) (tq_l8 b) (tq_h8 D b) = 0 then (0, tq_e T L (tq_e T L p), tq_D D 0 b (tq_v T L (tq_e T L p)), P, tq_B B b) else tq_oF (tq_no T L (tq_e T L p) (tq_l8 b) (tq_h8 D b)) (tq_s T L (tq_e T L p))) := by
  obtain ⟨g1, g2⟩ := pr_begins (N := N) (b := b) hN hS h (Or.inl (by omega)) hk
  have hb2 := tq_h8_b (D := D) (k := b) (by have := hD.1; omega)
  have e0 : ∃ hiF : bk_Val → Int32, (∀ V1, pk_NT V1 r D → hiF V1 = nI (tq_h8 D b)) ∧ q_X12_line0 N Y V r = bk_bd2 (q_X12_begins N Y V r (nI (tq_wd b))) (fun r_121 V_122 => if r_121 = nI 0 then q_X12_line0_384 N Y V_122 r else bk_bd2 (q_X12_number N Y V_122 r (nI (tq_l8 b)) (hiF V_122)) (fun r_124 V_125 => q_X12_line0_384 N Y (bk_wI V_125 r (32 + b) r_124) r)) := by
    rcases (show b = 1 ∨ b = 2 ∨ b = 3 ∨ b = 4 ∨ b = 5 by omega) with q | q | q | q | q <;> subst q
    · exact ⟨fun _ => nI 9, fun _ _ => rfl, pr_lineB1 hN hS h.1 hw⟩
    · exact ⟨fun _ => nI 99, fun _ _ => rfl, pr_lineB2 hN hS h.1 hw⟩
    · exact ⟨fun _ => nI 99, fun _ _ => rfl, pr_lineB3 hN hS h.1 hw⟩
    · exact ⟨fun _ => nI 100, fun _ _ => rfl, pr_lineB4 hN hS h.1 hw⟩
    · refine ⟨fun V1 => bk_rI V1 r 32 - nI 1, fun V1 h1 => ?_, pr_lineB5 hN hS h.1 hw⟩
      have := hD.1
      show bk_rI V1 r (32 + 0) - nI 1 = nI (D 0 0 - 1)
      rw [h1.1 0 (by omega), pk_sub (by omega)]
  obtain ⟨hiF, f1, f2⟩ := e0
  rw [f2]
  by_cases q : B b = true
  · rw [if_pos q]
    obtain ⟨V1, c1, c2, c3⟩ := g1 q
    exact pk_oK.F (by omega) (by rw [c1, pk_bd2E, if_pos rfl, pr_384F hS c3]) c2 c3
  · rw [if_neg q]
    obtain ⟨V1, c1, c2, c3, -⟩ := g2 (by cases g : B b with
      | true => exact absurd g q
      | false => rfl)
    rw [c1, pk_bd2E, if_neg (show ¬ nI 1 = nI 0 by decide), f1 V1 c3.2.1]
    obtain ⟨V2, d1, d2, d3, d4⟩ := pr_set (N := N) (k := b) hN hS c3 (by omega) hb2.2 hb2.1
    rw [d1, pk_bd2E]
    by_cases q2 : tq_no T L (tq_e T L p) (tq_l8 b) (tq_h8 D b) = 0
    · rw [if_pos q2]
      exact Or.inl ⟨rfl, _, rfl, c2.tr d2, d3 q2⟩
    · rw [if_neg q2]
      exact pk_oK.F q2 (pr_384F hS (d4 q2)) (c2.tr d2) (d4 q2)
/-- hand, miss, noise, pressure, mark -/
theorem ln_set (H : pk_lH N z u Y T L p D P B) (hb : 1 ≤ b ∧ b ≤ 5) (hw : tq_w T L p = tq_wd b) : pk_ln N z u r Y T L p D P B := by
  have ee := H.ends
  obtain ⟨hN, hC, hL, hp, hD, hP0, hP1, hk⟩ := H
  refine ⟨if B b = true then tq_oF 5 (tq_s T L p) else if tq_no T L (tq_e T L p) (tq_l8 b) (tq_h8 D b) = 0 then (0, tq_e T L (tq_e T L p), tq_D D 0 b (tq_v T L (tq_e T L p)), P, tq_B B b) else tq_oF (tq_no T L (tq_e T L p) (tq_l8 b) (tq_h8 D b)) (tq_s T L (tq_e T L p)), ?_, fun V h => ?_, fun Y2 V hS h => pr_lineB (by omega) hS h hD hk hb hw⟩
  · by_cases q : B b = true
    · rw [if_pos q]; exact pk_oB.F (by omega)
    rw [if_neg q]
    by_cases q2 : tq_no T L (tq_e T L p) (tq_l8 b) (tq_h8 D b) = 0
    · rw [if_pos q2]
      intro _
      obtain ⟨n0, n1, n2⟩ := tq_no0 q2
      have e2 := tq_e_gt (T := T) hL ee.2 n0
      refine ⟨by show p < tq_e T L (tq_e T L p); omega, tq_e_le hL ee.2, hD.w1 (by omega) (by omega) ?_, tq_B_8 (by omega) hP0, tq_B_9 (by omega) hP1⟩
      have := hD.1
      rcases (show b = 1 ∨ b = 2 ∨ b = 3 ∨ b = 4 ∨ b = 5 by omega) with q | q | q | q | q <;> subst q <;> simp only [tq_l8, tq_h8, Nat.reduceEqDiff, if_true, if_false, Nat.succ_ne_zero] at n1 n2 <;> omega
    · rw [if_neg q2]; exact pk_oB.F q2
  · rw [pc_lineS hC h.1 (by omega) hw]
    obtain ⟨g1, g2⟩ := pc_once (N := N) (b := b) hC h (by omega)
    by_cases q : B b = true
    · rw [if_pos q, tq_tlF (by omega)]
      obtain ⟨V1, c1, c2, c3⟩ := g1 q
      exact pk_oC.F (by omega) (by rw [c1, pk_bd2E, if_pos rfl]) c2 c3
    · rw [if_neg q]
      obtain ⟨V1, c1, c2, c3⟩ := g2 (by cases g : B b with
        | true => exact absurd g q
        | false => rfl)
      rw [c1, pk_bd2E, if_neg (show ¬ nI 1 = nI 0 by decide)]
      exact (pc_sgn hC (pc_set hC c3 (by omega) (by omega) hD)).fr c2
/-- clung -/
theorem ln_clung (H : pk_lH N z u Y T L p D P B) (hw : tq_w T L p = 24) : pk_ln N z u r Y T L p D P B := by
  have ee := H.ends
  obtain ⟨hN, hC, hL, hp, hD, hP0, hP1, hk⟩ := H
  by_cases q : B 6 = true
  · refine ⟨tq_oF 5 (tq_s T L p), pk_oB.F (by omega), fun V h => ?_, fun Y2 V hS h => ?_⟩
    · rw [pc_lineS (b := 6) hC h.1 (by omega) hw, tq_tlF (by omega)]
      obtain ⟨V1, c1, c2, c3⟩ := (pc_once (N := N) (b := 6) hC h (by omega)).1 q
      exact pk_oC.F (by omega) (by rw [c1, pk_bd2E, if_pos rfl]) c2 c3
    · rw [pr_lineB6 (by omega) hS h.1 hw]
      obtain ⟨V1, c1, c2, c3⟩ := (pr_begins (N := N) (b := 6) (by omega) hS h (Or.inl (by omega)) hk).1 q
      exact pk_oK.F (by omega) (by rw [show nI 24 = nI (tq_wd 6) from rfl, c1, pk_bd2E, if_pos rfl]) c2 c3
  have q' : B 6 = false := by
    cases g : B 6 with
    | true => exact absurd g q
    | false => rfl
  by_cases q1 : tq_no T L (tq_e T L p) 0 99 = 0
  · obtain ⟨n0, n1, n2⟩ := tq_no0 q1
    have e2 := tq_e_gt (T := T) hL ee.2 n0
    have e3 := tq_e_le (T := T) hL ee.2
    by_cases q2 : tq_no T L (tq_e T L (tq_e T L p)) 1 99 = 0
    · obtain ⟨m0, m1, m2⟩ := tq_no0 q2
      have e4 := tq_e_gt (T := T) hL e3 m0
      have hD1 : pk_DB (tq_D D 0 6 (tq_v T L (tq_e T L p))) P := hD.w1 (by omega) (by omega) (by omega)
      refine ⟨(0, tq_e T L (tq_e T L (tq_e T L p)), tq_D (tq_D D 0 6 (tq_v T L (tq_e T L p))) 0 7 (tq_v T L (tq_e T L (tq_e T L p))), P, tq_B B 6), fun _ => ⟨by show p < tq_e T L (tq_e T L (tq_e T L p)); omega, tq_e_le hL e3, hD1.w1 (by omega) (by omega) (by omega), tq_B_8 (b := 6) (by omega) hP0, tq_B_9 (b := 6) (by omega) hP1⟩, fun V h => ?_, fun Y2 V hS h => ?_⟩
      · rw [pc_lineS (b := 6) hC h.1 (by omega) hw]
        obtain ⟨V1, c1, c2, c3⟩ := (pc_once (N := N) (b := 6) hC h (by omega)).2 q'
        rw [c1, pk_bd2E, if_neg (show ¬ nI 1 = nI 0 by decide)]
        refine (pc_sgn hC ?_).fr c2
        obtain ⟨V2, d1, d2, d3⟩ := (pc_iter (n := N - 1) (l := 7) (k := 6) hC c3 (by omega) (by omega) hD).1 q1
        obtain ⟨V3, f1, f2, f3⟩ := (pc_iter (n := N - 2) (l := 7) (k := 7) hC d3 (by omega) (by omega) hD1).1 q2
        refine Or.inl ⟨rfl, V3, ?_, d2.tr f2, f3⟩
        rw [show N - 1 + 1 = N by omega] at d1
        rw [show N - 2 + 1 = N - 1 by omega] at f1
        rw [pc_set6, d1, f1, show N - 2 = N - 3 + 1 by omega, pc_iterE (by omega)]
      · rw [pr_lineB6 (by omega) hS h.1 hw]
        obtain ⟨V1, c1, c2, c3, -⟩ := (pr_begins (N := N) (b := 6) (by omega) hS h (Or.inl (by omega)) hk).2 q'
        obtain ⟨V2, d1, d2, d3, d4⟩ := pr_set (N := N) (k := 6) (lo := 0) (hi := 99) (by omega) hS c3 (by omega) (by omega) (by omega)
        obtain ⟨V3, f1, f2, f3, f4⟩ := pr_set (N := N) (k := 7) (lo := 1) (hi := 99) (by omega) hS (d3 q1) (by omega) (by omega) (by omega)
        exact Or.inl ⟨rfl, _, by rw [show nI 24 = nI (tq_wd 6) from rfl, c1, pk_bd2E, if_neg (show ¬ nI 1 = nI 0 by decide), d1, pk_bd2E, f1, pk_bd2E], (c2.tr d2).tr f2, f3 q2⟩
    · refine ⟨tq_oF (tq_no T L (tq_e T L (tq_e T L p)) 1 99) (tq_s T L (tq_e T L (tq_e T L p))), pk_oB.F q2, fun V h => ?_, fun Y2 V hS h => ?_⟩
      · rw [pc_lineS (b := 6) hC h.1 (by omega) hw]
        obtain ⟨V1, c1, c2, c3⟩ := (pc_once (N := N) (b := 6) hC h (by omega)).2 q'
        rw [c1, pk_bd2E, if_neg (show ¬ nI 1 = nI 0 by decide)]
        refine (pc_sgn hC ?_).fr c2
        obtain ⟨V2, d1, d2, d3⟩ := (pc_iter (n := N - 1) (l := 7) (k := 6) hC c3 (by omega) (by omega) hD).1 q1
        obtain ⟨V3, f1, f2, f3⟩ := (pc_iter (n := N - 2) (l := 7) (k := 7) hC d3 (by omega) (by omega) (hD.w1 (by omega) (by omega) (by omega))).2 q2
        refine pk_oC.F q2 ?_ (d2.tr f2) f3
        rw [show N - 1 + 1 = N by omega] at d1
        rw [show N - 2 + 1 = N - 1 by omega] at f1
        rw [pc_set6, d1, f1]
      · rw [pr_lineB6 (by omega) hS h.1 hw]
        obtain ⟨V1, c1, c2, c3, -⟩ := (pr_begins (N := N) (b := 6) (by omega) hS h (Or.inl (by omega)) hk).2 q'
        obtain ⟨V2, d1, d2, d3, d4⟩ := pr_set (N := N) (k := 6) (lo := 0) (hi := 99) (by omega) hS c3 (by omega) (by omega) (by omega)
        obtain ⟨V3, f1, f2, f3, f4⟩ := pr_set (N := N) (k := 7) (lo := 1) (hi := 99) (by omega) hS (d3 q1) (by omega) (by omega) (by omega)
        exact pk_oK.F q2 (by rw [show nI 24 = nI (tq_wd 6) from rfl, c1, pk_bd2E, if_neg (show ¬ nI 1 = nI 0 by decide), d1, pk_bd2E, f1, pk_bd2E, pr_384F hS (f4 q2)]) ((c2.tr d2).tr f2) (f4 q2)
  · refine ⟨tq_oF (tq_no T L (tq_e T L p) 0 99) (tq_s T L (tq_e T L p)), pk_oB.F q1, fun V h => ?_, fun Y2 V hS h => ?_⟩
    · rw [pc_lineS (b := 6) hC h.1 (by omega) hw]
      obtain ⟨V1, c1, c2, c3⟩ := (pc_once (N := N) (b := 6) hC h (by omega)).2 q'
      rw [c1, pk_bd2E, if_neg (show ¬ nI 1 = nI 0 by decide)]
      refine (pc_sgn hC ?_).fr c2
      obtain ⟨V2, d1, d2, d3⟩ := (pc_iter (n := N - 1) (l := 7) (k := 6) hC c3 (by omega) (by omega) hD).2 q1
      refine pk_oC.F q1 ?_ d2 d3
      rw [show N - 1 + 1 = N by omega] at d1
      rw [pc_set6, d1]
    · rw [pr_lineB6 (by omega) hS h.1 hw]
      obtain ⟨V1, c1, c2, c3, -⟩ := (pr_begins (N := N) (b := 6) (by omega) hS h (Or.inl (by omega)) hk).2 q'
      obtain ⟨V2, d1, d2, d3, d4⟩ := pr_set (N := N) (k := 6) (lo := 0) (hi := 99) (by omega) hS c3 (by omega) (by omega) (by omega)
      have d5 := d4 q1
      have n1 := pr_numF (N := N) (x := nI 1) (y := nI 99) hS d5
      have d6 : pk_FR r (bk_wI (bk_wI V2 r (32 + 6) (nI (tq_v T L (tq_e T L p)))) r 39 (nI 0)) (tq_no T L (tq_e T L p) 0 99) (tq_s T L (tq_e T L p)) := d5.off (fun j hj => by rw [pk_rI_same, if_neg (by omega)])
      exact pk_oK.F q1 (by rw [show nI 24 = nI (tq_wd 6) from rfl, c1, pk_bd2E, if_neg (show ¬ nI 1 = nI 0 by decide), d1, pk_bd2E, n1, pk_bd2E, pr_384F hS d6]) ((c2.tr d2).tr (pk_frW.ws (by omega))) d6
end
