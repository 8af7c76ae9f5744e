/-! dark, mean -/
section
variable {N z t u s tl r a b c d k n j h m l p q0 md wa s' i f : Nat} {Y Y' : bk_Lay} {V V' V2 W : bk_Val} {x y x1 x2 x3 x4 x5 : Int32} {w1 w2 : Int64} {D : Nat → Nat → Nat} {P : Nat → List Nat} {T T' w R : Nat → Nat} {st st' g : pk_St} {hs hs' : List pk_St} {img img' : Option (pk_St × List pk_St)} {pl : Option (Nat → Nat)} {fp r0 r1 : Int32} {A B : pk_A}
def pk_uN (f : Nat → Nat) (i v : Nat) : Nat → Nat := fun j => if j = i then v else f j
def sp_ins (D : Nat → Nat → Nat) (k : Nat) : Nat → (Nat → Nat) → (Nat → Nat)
  | 0, R => pk_uN R 0 k
  | a + 1, R => if D 8 (R a) * D 9 k ≤ D 8 k * D 9 (R a) then pk_uN R (a + 1) k else sp_ins D k a (pk_uN R (a + 1) (R a))
def sp_ord (D : Nat → Nat → Nat) : Nat → (Nat → Nat)
  | 0 => fun _ => 0
  | k + 1 => sp_ins D k k (sp_ord D k)
theorem sp_ins_lt : ∀ (a : Nat) (R : Nat → Nat), a ≤ k → (∀ j, j < k + 1 → j ≠ a → R j < k) → ∀ j, j < k + 1 → sp_ins D k a R j < k + 1
  | 0, R, _, h, j, hj => by
    show (if j = 0 then k else R j) < k + 1
    split
    · omega
    · have := h j hj (by omega); omega
  | a + 1, R, ha, h, j, hj => by
    rw [sp_ins]
    split
    · show (if j = a + 1 then k else R j) < k + 1
      split
      · omega
      · have := h j hj (by omega); omega
    · refine sp_ins_lt a _ (by omega) (fun i hi hne => ?_) j hj
      show (if i = a + 1 then R a else R i) < k
      split
      · exact h a (by omega) (by omega)
      · exact h i hi (by omega)
theorem sp_ord_lt : ∀ k, ∀ j, j < k → sp_ord D k j < k
  | 0, j, hj => by omega
  | k + 1, j, hj => sp_ins_lt k _ (Nat.le_refl _) (fun i hi hne => sp_ord_lt k i (by omega)) j hj
theorem pk_rowU (h : ∀ q, q < k + 1 → q ≠ a → bk_rI W b q = nI (R q)) (v : Nat) : ∀ q, q < k + 1 → bk_rI (bk_wI W b a (nI v)) b q = nI (pk_uN R a v q) := by
  intro q hq
  rw [pk_rI_same]
  unfold pk_uN
  by_cases c : q = a
  · rw [if_pos c, if_pos c]
  · rw [if_neg c, if_neg c]; exact h q hq c
theorem pc_order (hN : 1000 ≤ N) (hS : pk_Sd Y t) (hT : pk_CT V t D P) (hB : pk_DB D P) (hb : bk_sh Y b = (2, 6)) (hbt : b < t) : ∃ V2, q_X10_putInOrder N Y V (t + 7) b = some V2 ∧ pk_but b V V2 ∧ ∀ j, j < D 7 0 → bk_rI V2 b j = nI (sp_ord D (D 7 0) j) := by
  obtain ⟨-, -, -, -, -, -, -, -, -, -, -, b1, b2, -, -, -⟩ := hB
  obtain ⟨-, -, -, -, c5, c6, -⟩ := hT
  refine loop_i (σ := bk_Val) (fun fu i W => ∃ V2, q_X10_putInOrder_2 N Y fu W (t + 7) b (nI i) = some V2 ∧ pk_but b V V2 ∧ ∀ j, j < D 7 0 → bk_rI V2 b j = nI (sp_ord D (D 7 0) j))
    (fun i W => pk_but b V W ∧ ∀ j, j < i → bk_rI W b j = nI (sp_ord D i j)) (D 7 0) ?_ ?_ N 0 V (by omega) (by omega) ⟨pk_but.rf, fun j hj => by omega⟩
  · intro fu W hW
    refine ⟨W, ?_, hW.1, hW.2⟩
    have e : bk_rI W (t + 7) 2 = nI (D 7 0) := (hW.1.rd (by omega)).trans c5
    simp (disch := omega) only [q_X10_putInOrder_2, hS, e, pk_ckT, pk_bs, pk_letE, pk_bd2E, pk_bd3E, if_true, if_false, eq_self, not_true_eq_false, not_false_eq_true, true_and, and_true, Nat.not_lt_zero, Nat.zero_le, Nat.reduceEqDiff, Nat.reduceLT, Nat.reduceLeDiff, pk_ck, nI_leI, Nat.le_refl]
  · intro fu k W hk hW ih
    have e : bk_rI W (t + 7) 2 = nI (D 7 0) := (hW.1.rd (by omega)).trans c5
    rw [q_X10_putInOrder_2]
    simp (disch := omega) only [hS, hb, e, pk_ckT, pk_bs, pk_letE, pk_bd2E, pk_bd3E, if_true, if_false, eq_self, not_true_eq_false, not_false_eq_true, true_and, and_true, Nat.not_lt_zero, Nat.zero_le, Nat.reduceEqDiff, Nat.reduceLT, Nat.reduceLeDiff, pk_ck, nI_leI]
    rw [if_neg (by omega), if_neg (by omega)]
    have L : ∀ (a fu2 : Nat) (R : Nat → Nat) (W : bk_Val), a ≤ k → a < fu2 → pk_but b V W → (∀ q, q < k + 1 → q ≠ a → bk_rI W b q = nI (R q)) → (∀ q, q < k + 1 → q ≠ a → R q < k) → (∀ q, q < k + 1 → sp_ins D k a R q = sp_ord D (k + 1) q) → ∃ V2, q_X10_putInOrder_18 N Y (q_X10_putInOrder_2 N Y fu) fu2 W (t + 7) b (nI k) (nI a) = some V2 ∧ pk_but b V V2 ∧ ∀ j, j < D 7 0 → bk_rI V2 b j = nI (sp_ord D (D 7 0) j) := by
      intro a
      induction a with
      | zero =>
        intro fu2 R W ha hfu2 hW h1 h2 h3
        obtain ⟨fu2, rfl⟩ : ∃ n', fu2 = n' + 1 := ⟨fu2 - 1, by omega⟩
        rw [q_X10_putInOrder_18]
        simp (disch := omega) only [pk_lit, nI_leI, Nat.le_refl, if_true, q_X10_putInOrder_49, hb, pk_ckT, pk_bs, pk_letE, pk_bd2E, pk_bd3E, if_true, if_false, eq_self, not_true_eq_false, not_false_eq_true, true_and, and_true, Nat.not_lt_zero, Nat.zero_le, Nat.reduceEqDiff, Nat.reduceLT, Nat.reduceLeDiff, pk_ck, nI_clamp, pk_inE, nI_add]
        refine ih _ ⟨hW.wI, fun q hq => ?_⟩
        rw [pk_rowU h1 k q hq, ← h3 q hq]
        rfl
      | succ a iha =>
        intro fu2 R W ha hfu2 hW h1 h2 h3
        obtain ⟨fu2, rfl⟩ : ∃ n', fu2 = n' + 1 := ⟨fu2 - 1, by omega⟩
        have r1 : bk_rI W b a = nI (R a) := h1 a (by omega) (by omega)
        have r2 := h2 a (by omega) (by omega)
        have p1 := c6 k hk
        have p2 := c6 (R a) (by omega)
        have q1 := b2 k hk
        have q2 := b2 (R a) (by omega)
        have m1 := Nat.mul_le_mul q2.2.1 q1.2.2.2
        have m2 := Nat.mul_le_mul q1.2.1 q2.2.2.2
        have ra : ∀ q, bk_rI W (t + 8) q = bk_rI V (t + 8) q := fun q => hW.rd (by omega)
        have rb : ∀ q, bk_rI W (t + 9) q = bk_rI V (t + 9) q := fun q => hW.rd (by omega)
        rw [q_X10_putInOrder_18]
        simp (disch := omega) only [pk_lit, nI_leI, pk_sub, Nat.add_sub_cancel]
        rw [if_neg (by omega)]
        simp (disch := omega) only [hb, pk_ckT, pk_bs, pk_letE, pk_bd2E, pk_bd3E, if_true, if_false, eq_self, not_true_eq_false, not_false_eq_true, true_and, and_true, Nat.not_lt_zero, Nat.zero_le, Nat.reduceEqDiff, Nat.reduceLT, Nat.reduceLeDiff, pk_ck, nI_clamp, pk_inE, hS, r1, q_X10_isCheaper, ra, rb, p1, p2, pk_mul, nI_leI]
        rw [sp_ins] at h3
        by_cases cc : D 8 (R a) * D 9 k ≤ D 8 k * D 9 (R a)
        · rw [if_pos cc, pk_bs, if_pos (show (0 : Int32) = nI 0 from rfl)]
          simp only [if_pos cc] at h3
          simp (disch := omega) only [q_X10_putInOrder_49, hb, pk_ckT, pk_bs, pk_letE, pk_bd2E, pk_bd3E, if_true, if_false, eq_self, not_true_eq_false, not_false_eq_true, true_and, and_true, Nat.not_lt_zero, Nat.zero_le, Nat.reduceEqDiff, Nat.reduceLT, Nat.reduceLeDiff, pk_ck, nI_clamp, pk_inE, nI_add, pk_lit]
          refine ih _ ⟨hW.wI, fun q hq => ?_⟩
          rw [pk_rowU h1 k q hq, ← h3 q hq]
        · rw [if_neg cc, pk_bs, if_neg (by decide)]
          simp only [if_neg cc] at h3
          simp (disch := omega) only [pk_addm1, Nat.add_sub_cancel, pk_lit]
          refine iha fu2 (pk_uN R (a + 1) (R a)) _ (by omega) (by omega) hW.wI (fun q hq hne => pk_rowU h1 (R a) q hq) (fun q hq hne => ?_) h3
          unfold pk_uN
          split
          · exact r2
          · exact h2 q hq (by omega)
    exact L k N (sp_ord D k) W (Nat.le_refl _) (by omega) hW.1 (fun q hq hne => hW.2 q (by omega)) (fun q hq hne => sp_ord_lt k q (by omega)) (fun q hq => rfl)
theorem pr_order (hN : 1000 ≤ N) (hS : pk_Rf Y r) (hT : pk_RT V r D P) (hB : pk_DB D P) : ∃ V2, q_X12_orders N Y V r = some V2 ∧ pk_but (r + 24) V V2 ∧ ∀ j, j < D 7 0 → bk_rI V2 (r + 24) j = nI (sp_ord D (D 7 0) j) := by
  obtain ⟨-, -, -, -, -, -, -, -, -, -, -, b1, b2, -, -, -⟩ := hB
  obtain ⟨c1, -, -, c4, -⟩ := hT
  refine loop_i (σ := bk_Val) (fun fu i W => ∃ V2, q_X12_orders_2 N Y fu W r (nI i) = some V2 ∧ pk_but (r + 24) V V2 ∧ ∀ j, j < D 7 0 → bk_rI V2 (r + 24) j = nI (sp_ord D (D 7 0) j))
    (fun i W => pk_but (r + 24) V W ∧ ∀ j, j < i → bk_rI W (r + 24) j = nI (sp_ord D i j)) (D 7 0) ?_ ?_ N 0 V (by omega) (by omega) ⟨pk_but.rf, fun j hj => by omega⟩
  · intro fu W hW
    refine ⟨W, ?_, hW.1, hW.2⟩
    have e : bk_rI W r 10 = nI (D 7 0) := (hW.1.rd (by omega)).trans c1.2.2.2.2.2.2.2.2.2.1
    simp (disch := omega) only [q_X12_orders_2, hS, e, pk_ckT, pk_bs, pk_letE, pk_bd2E, pk_bd3E, if_true, if_false, eq_self, not_true_eq_false, not_false_eq_true, true_and, and_true, Nat.not_lt_zero, Nat.zero_le, Nat.reduceEqDiff, Nat.reduceLT, Nat.reduceLeDiff, pk_ck, nI_leI, Nat.le_refl]
  · intro fu k W hk hW ih
    have e : bk_rI W r 10 = nI (D 7 0) := (hW.1.rd (by omega)).trans c1.2.2.2.2.2.2.2.2.2.1
    rw [q_X12_orders_2]
    simp (disch := omega) only [hS, e, pk_ckT, pk_bs, pk_letE, pk_bd2E, pk_bd3E, if_true, if_false, eq_self, not_true_eq_false, not_false_eq_true, true_and, and_true, Nat.not_lt_zero, Nat.zero_le, Nat.reduceEqDiff, Nat.reduceLT, Nat.reduceLeDiff, pk_ck, nI_leI]
    rw [if_neg (by omega)]
    have L : ∀ (a fu2 : Nat) (R : Nat → Nat) (W : bk_Val), a ≤ k → a < fu2 → pk_but (r + 24) V W → (∀ q, q < k + 1 → q ≠ a → bk_rI W (r + 24) q = nI (R q)) → (∀ q, q < k + 1 → q ≠ a → R q < k) → (∀ q, q < k + 1 → sp_ins D k a R q = sp_ord D (k + 1) q) → ∃ V2, q_X12_orders_12 N Y (q_X12_orders_2 N Y fu) fu2 W r (nI k) (nI a) = some V2 ∧ pk_but (r + 24) V V2 ∧ ∀ j, j < D 7 0 → bk_rI V2 (r + 24) j = nI (sp_ord D (D 7 0) j) := by
      intro a
      induction a with
      | zero =>
        intro fu2 R W ha hfu2 hW h1 h2 h3
        obtain ⟨fu2, rfl⟩ : ∃ n', fu2 = n' + 1 := ⟨fu2 - 1, by omega⟩
        rw [q_X12_orders_12]
        simp (disch := omega) only [pk_lit, nI_leI, Nat.le_refl, if_true, q_X12_orders_91, hS, pk_ckT, pk_bs, pk_letE, pk_bd2E, pk_bd3E, if_true, if_false, eq_self, not_true_eq_false, not_false_eq_true, true_and, and_true, Nat.not_lt_zero, Nat.zero_le, Nat.reduceEqDiff, Nat.reduceLT, Nat.reduceLeDiff, pk_ck, nI_clamp, pk_inE, nI_add]
        refine ih _ ⟨hW.wI, fun q hq => ?_⟩
        rw [pk_rowU h1 k q hq, ← h3 q hq]
        rfl
      | succ a iha =>
        intro fu2 R W ha hfu2 hW h1 h2 h3
        obtain ⟨fu2, rfl⟩ : ∃ n', fu2 = n' + 1 := ⟨fu2 - 1, by omega⟩
        have r1 : bk_rI W (r + 24) a = nI (R a) := h1 a (by omega) (by omega)
        have r2 := h2 a (by omega) (by omega)
        have p1 := c4 k hk
        have p2 := c4 (R a) (by omega)
        have q1 := b2 k hk
        have q2 := b2 (R a) (by omega)
        have m1 := Nat.mul_le_mul q2.2.1 q1.2.2.2
        have m2 := Nat.mul_le_mul q1.2.1 q2.2.2.2
        have ra : ∀ q, bk_rI W (r + 3) q = bk_rI V (r + 3) q := fun q => hW.rd (by omega)
        rw [q_X12_orders_12]
        simp (disch := omega) only [pk_lit, nI_leI, pk_sub, Nat.add_sub_cancel]
        rw [if_neg (by omega)]
        simp (disch := omega) only [hS, pk_ckT, pk_bs, pk_letE, pk_bd2E, pk_bd3E, if_true, if_false, eq_self, not_true_eq_false, not_false_eq_true, true_and, and_true, Nat.not_lt_zero, Nat.zero_le, Nat.reduceEqDiff, Nat.reduceLT, Nat.reduceLeDiff, pk_ck, nI_clamp, pk_inE, r1, ra, pk_mul, nI_add, p1, p2, nI_leI]
        rw [sp_ins] at h3
        by_cases cc : D 8 (R a) * D 9 k ≤ D 8 k * D 9 (R a)
        · rw [if_pos cc]
          simp only [if_pos cc] at h3
          simp (disch := omega) only [q_X12_orders_91, hS, pk_ckT, pk_bs, pk_letE, pk_bd2E, pk_bd3E, if_true, if_false, eq_self, not_true_eq_false, not_false_eq_true, true_and, and_true, Nat.not_lt_zero, Nat.zero_le, Nat.reduceEqDiff, Nat.reduceLT, Nat.reduceLeDiff, pk_ck, nI_clamp, pk_inE, nI_add, pk_lit]
          refine ih _ ⟨hW.wI, fun q hq => ?_⟩
          rw [pk_rowU h1 k q hq, ← h3 q hq]
        · rw [if_neg cc]
          simp only [if_neg cc] at h3
          simp (disch := omega) only [pk_addm1, Nat.add_sub_cancel, pk_lit]
          refine iha fu2 (pk_uN R (a + 1) (R a)) _ (by omega) (by omega) hW.wI (fun q hq hne => pk_rowU h1 (R a) q hq) (fun q hq hne => ?_) h3
          unfold pk_uN
          split
          · exact r2
          · exact h2 q hq (by omega)
    exact L k N (sp_ord D k) W (Nat.le_refl _) (by omega) hW.1 (fun q hq hne => hW.2 q (by omega)) (fun q hq hne => sp_ord_lt k q (by omega)) (fun q hq => rfl)
theorem pk_but.R24 (h : pk_but (r + 24) V V') : pk_frR r V V' := ⟨fun a _ _ _ q4 => h.2 a q4, fun k _ _ _ _ => congrFun (h.2 r (by omega)) k, fun a _ _ _ => by rw [h.1]⟩
theorem pk_JC.dark (h : pk_JC z Y V t u s D P T tl st hs img pl fp r0 r1) (f : pk_but (z + 9) V V') : pk_CA z Y V' (D, P, T, tl, st, hs, img, pl, fp, r0, r1) ∧ pk_offR z V V' := by
  have hn := h.ne
  exact ⟨⟨t, u, s, h.of rfl rfl (Nat.le_refl _) (fun a _ _ _ _ _ q6 => f.2 a q6) (fun a _ _ => by rw [f.1]) (fun a _ => ⟨f.2 a (by omega), by rw [f.1]⟩)⟩, fun a q1 q2 => ⟨f.2 a (by omega), by rw [f.1]⟩⟩
theorem pc_needE0 : q_X11_needElement N Y V 0 = some (.inl 1) := rfl
theorem pc_needE1 : q_X11_needElement N Y V 1 = some (.inr ()) := rfl
theorem st_28 (hN : 20000 ≤ N) (hI : pk_IA z Y V) : bk_st28 N z (z + 58) (z + 86) Y V x1 x2 x3 x4 x5 (pk_IA z) := by
  obtain ⟨t, u, s, D, P, T, tl, st, hs, img, pl, fp, r0, r1, hJ, hR, hB, hC, hRA, hBA⟩ := hI.e
  obtain ⟨hM, hS, hz, hT, hs5, -⟩ := hJ.o
  have hn := hJ.ne
  have b1 : D 7 0 ≤ 6 := hB.1.2.2.2.2.2.2.2.2.2.2.2.1
  obtain ⟨V1, e1, f1, g1⟩ := pc_order (N := N) (b := z + 9) (by omega) hS hT hB.1 (by simp only [hM]) (by omega)
  have e7 : bk_rI V (t + 7) 2 = nI (D 7 0) := hT.2.2.2.2.1
  by_cases c : x1 < 0
  · refine ⟨.inl 1, ?_, (fun e he => by cases he; rfl), pk_stT hC hRA hBA rfl (k := 1) (by decide) (v := nI 0) (fun Y1 V1 h1 h2 => ⟨_, ?_, pk_frR.rf⟩)⟩
    · rw [q_X11_dark, if_pos c, q_X11_dark_9, pc_needE0, pk_bdxL]
    · have e9 : q_X12_right N Y1 (bk_wI V1 (z + 58) 0 (nI 0)) (z + 58) (nI 0) (nI 1) = some (nI 0, bk_wI (bk_wI V1 (z + 58) 0 (nI 0)) (z + 58) 0 (nI 1)) := pr_right (c := False) h1 pk_w0 (Or.inl rfl)
      simp only [q_X12_dark, q_X12_dark_15, h1, pk_ckT, eq_self, pk_letE, pk_lit, e9, pk_bd2E, if_true]
      rw [if_pos (show x1 < nI 0 from c)]
  · have eC : q_X11_dark N Y V z x1 = if x1 < nI (D 7 0) then (bk_ck (bk_in x1 6) <| some (.inr ((bk_rI V1 (z + 9) x1.toNatClampNeg), V1))) else some (.inr (-nI 1, V)) := by
      rw [q_X11_dark, if_neg c, q_X11_dark_9, pc_needE1, pk_bdxR]
      simp only [hM, hz, hS, pk_ckT, pk_bs, pk_letE, pk_bd2E, pk_bd3E, if_true, if_false, eq_self, not_true_eq_false, not_false_eq_true, true_and, and_true, Nat.not_lt_zero, Nat.zero_le, Nat.reduceEqDiff, Nat.reduceLT, Nat.reduceLeDiff, pk_ck, e7, e1, pk_lit]
    have eR : ∀ Y1 V1, pk_Rf Y1 (z + 58) → pk_RA (z + 58) V1 (D, P, T, tl, st, hs, img, pl, fp, r0, r1) → ∃ V2, pk_but (z + 58 + 24) (bk_wI V1 (z + 58) 0 (nI 0)) V2 ∧ (∀ j, j < D 7 0 → bk_rI V2 (z + 58 + 24) j = nI (sp_ord D (D 7 0) j)) ∧ q_X12_dark N Y1 V1 (z + 58) x1 = if nI (D 7 0) ≤ x1 then some (-nI 1, V2) else (bk_ck (bk_in x1 6) <| some (bk_rI V2 (z + 58 + 24) x1.toNatClampNeg, V2)) := by
      intro Y1 V1 h1 h2
      have h3 : pk_JR (z + 58) (bk_wI V1 (z + 58) 0 (nI 0)) D P T tl st hs img pl fp r0 r1 := pk_JR.w0 h2
      obtain ⟨V2, e2, f2, g2⟩ := pr_order (N := N) (by omega) h1 h3.1 hB.1
      refine ⟨V2, f2, g2, ?_⟩
      have e9 : q_X12_right N Y1 (bk_wI V1 (z + 58) 0 (nI 0)) (z + 58) (nI 1) (nI 1) = some (nI 1, bk_wI V1 (z + 58) 0 (nI 0)) := pr_right (c := True) h1 pk_w0 (Or.inl rfl)
      have e10 : bk_rI V2 (z + 58) 10 = nI (D 7 0) := (f2.rd (by omega)).trans h3.1.1.2.2.2.2.2.2.2.2.2.1
      rw [q_X12_dark, pk_ck h1.1, pk_letE, if_neg c]
      simp (disch := omega) only [q_X12_dark_15, h1, pk_ckT, pk_bs, pk_letE, pk_bd2E, pk_bd3E, if_true, if_false, eq_self, not_true_eq_false, not_false_eq_true, true_and, and_true, Nat.not_lt_zero, Nat.zero_le, Nat.reduceEqDiff, Nat.reduceLT, Nat.reduceLeDiff, pk_ck, pk_lit, e9, nI_eq, e2, e10]
    rcases pk_ix2 x1 (n := D 7 0) (by omega) with hx | ⟨j, hj, rfl⟩
    · have hx2 := hx.resolve_left c
      refine ⟨.inr (-nI 1, V), ?_, (fun e he => by cases he), pk_stQ hC hRA hBA ⟨hC, pk_offR.rf⟩ rfl (fun Y1 V1 h1 h2 => ?_)⟩
      · rw [eC, if_neg (Int32.not_lt.mpr hx2)]
      · obtain ⟨V2, f2, g2, e2⟩ := eR Y1 V1 h1 h2
        exact ⟨V2, by rw [e2, if_pos hx2], f2.R24⟩
    · refine ⟨.inr (nI (sp_ord D (D 7 0) j), V1), ?_, (fun e he => by cases he), pk_stQ hC hRA hBA (hJ.dark f1) rfl (fun Y1 V1 h1 h2 => ?_)⟩
      · rw [eC, if_pos (nI_lt hj (by omega)), pk_ck ((pk_inE (by omega)).mpr (by omega)), nI_clamp (by omega), g1 j hj]
      · obtain ⟨V2, f2, g2, e2⟩ := eR Y1 V1 h1 h2
        exact ⟨V2, by rw [e2, if_neg (nI_ge hj (by omega)), pk_ck ((pk_inE (by omega)).mpr (by omega)), nI_clamp (by omega), g2 j hj], f2.R24⟩
/-! mean -/
def sp_mn (D : Nat → Nat → Nat) (R : Nat → Nat) : Nat → Nat × Nat × Nat
  | 0 => (0, 0, 0)
  | k + 1 => ((sp_mn D R k).1 + D 8 (R k), (sp_mn D R k).2.1 + ((sp_mn D R k).1 + D 8 (R k)) * D 9 (R k), (sp_mn D R k).2.2 + D 9 (R k))
theorem pc_mean (hN : 1000 ≤ N) (hJ : pk_JC z Y V t u s D P T tl st hs img pl fp r0 r1) (hB : pk_JB D P T tl st hs img) (hw : j < 2) {R : Nat → Nat} (hR : R = sp_ord D (D 7 0)) : ∃ V2, q_X11_mean N Y V z (nI j) = some (.inr (nI (if j = 0 then (sp_mn D R (D 7 0)).2.1 else (sp_mn D R (D 7 0)).2.2), V2)) ∧ pk_but (z + 9) V V2 := by
  obtain ⟨hM, hS, hz, hT, hs5, -⟩ := hJ.o
  have hn := hJ.ne
  have b1 : D 7 0 ≤ 6 := hB.1.2.2.2.2.2.2.2.2.2.2.2.1
  have b2 := hB.1.2.2.2.2.2.2.2.2.2.2.2.2.1
  obtain ⟨V1, e1, f1, g1⟩ := pc_order (N := N) (b := z + 9) hN hS hT hB.1 (by simp only [hM]) (by omega)
  rw [← hR] at g1
  have hlt : ∀ i, i < D 7 0 → R i < D 7 0 := fun i hi => by rw [hR]; exact sp_ord_lt _ i hi
  refine ⟨V1, ?_, f1⟩
  have L := loop_i (σ := Unit) (fun fu i _ => q_X11_mean_33 N Y fu V1 z (nI j) (nI (sp_mn D R i).1) (nI (sp_mn D R i).2.1) (nI (sp_mn D R i).2.2) (nI i) = some (.inr (nI (if j = 0 then (sp_mn D R (D 7 0)).2.1 else (sp_mn D R (D 7 0)).2.2), V1))) (fun _ _ => True) (D 7 0) ?_ ?_ N 0 () (by omega) (by omega) trivial
  · simp only [q_X11_mean, pc_isWithin, pk_bs, pk_lit, pc_needE]
    rw [if_pos (pk_inn hw (by decide) rfl), pk_bdxR]
    simp only [hM, hz, hS, pk_ckT, pk_bs, pk_letE, pk_bd2E, pk_bd3E, if_true, if_false, eq_self, not_true_eq_false, not_false_eq_true, true_and, and_true, Nat.not_lt_zero, Nat.zero_le, Nat.reduceEqDiff, Nat.reduceLT, Nat.reduceLeDiff, pk_ck, e1]
    exact L
  · intro fu _ _
    have e : bk_rI V1 (t + 7) 2 = nI (D 7 0) := (f1.rd (by omega)).trans hT.2.2.2.2.1
    rw [q_X11_mean_33]
    simp (disch := omega) only [hM, hz, hS, pk_ckT, pk_bs, pk_letE, pk_bd2E, pk_bd3E, if_true, if_false, eq_self, not_true_eq_false, not_false_eq_true, true_and, and_true, Nat.not_lt_zero, Nat.zero_le, Nat.reduceEqDiff, Nat.reduceLT, Nat.reduceLeDiff, pk_ck, e, nI_leI, Nat.le_refl, pk_lit, nI_eq]
    by_cases c : j = 0
    · rw [if_pos c, if_pos c]
    · rw [if_neg c, if_neg c]
  · intro fu i _ hi _ ih
    have e : bk_rI V1 (t + 7) 2 = nI (D 7 0) := (f1.rd (by omega)).trans hT.2.2.2.2.1
    have r1 := hlt i hi
    have p1 : bk_rI V1 (t + 8) (R i) = nI (D 8 (R i)) := (f1.rd (by omega)).trans (hT.2.2.2.2.2.1 (R i) r1).1
    have p2 : bk_rI V1 (t + 9) (R i) = nI (D 9 (R i)) := (f1.rd (by omega)).trans (hT.2.2.2.2.2.1 (R i) r1).2
    rw [q_X11_mean_33]
    simp (disch := omega) only [hM, hz, hS, pk_ckT, pk_bs, pk_letE, pk_bd2E, pk_bd3E, if_true, if_false, eq_self, not_true_eq_false, not_false_eq_true, true_and, and_true, Nat.not_lt_zero, Nat.zero_le, Nat.reduceEqDiff, Nat.reduceLT, Nat.reduceLeDiff, pk_ck, e, nI_leI, pk_lit, nI_clamp, pk_inE, g1 i hi, p1, p2, nI_add, pk_mul]
    rw [if_neg (by omega)]
    exact ih () trivial
theorem pr_mean (hN : 1000 ≤ N) (hS : pk_Rf Y r) (hRR : pk_JR r V D P T tl st hs img pl fp r0 r1) (hB : pk_JB D P T tl st hs img) (hw : j < 2) {R : Nat → Nat} (hR : R = sp_ord D (D 7 0)) : ∃ V2, q_X12_mean N Y V r (nI j) = some (nI (if j = 0 then (sp_mn D R (D 7 0)).2.1 else (sp_mn D R (D 7 0)).2.2), V2) ∧ pk_frR r (bk_wI V r 0 (nI 0)) V2 := by
  have b1 : D 7 0 ≤ 6 := hB.1.2.2.2.2.2.2.2.2.2.2.2.1
  have h3 := hRR.w0 (x := nI 0)
  obtain ⟨V1, e1, f1, g1⟩ := pr_order (N := N) hN hS h3.1 hB.1
  rw [← hR] at g1
  have hlt : ∀ i, i < D 7 0 → R i < D 7 0 := fun i hi => by rw [hR]; exact sp_ord_lt _ i hi
  have q := pk_inn (m := 1) hw (by decide) rfl
  have e : bk_rI V1 r 10 = nI (D 7 0) := (f1.rd (by omega)).trans h3.1.1.2.2.2.2.2.2.2.2.2.1
  refine ⟨V1, ?_, f1.R24⟩
  have L := loop_i (σ := Unit) (fun fu i _ => q_X12_mean_30 N Y fu V1 r (nI j) (nI (sp_mn D R i).1) (nI (sp_mn D R i).2.1) (nI (sp_mn D R i).2.2) (nI i) = some (nI (if j = 0 then (sp_mn D R (D 7 0)).2.1 else (sp_mn D R (D 7 0)).2.2), V1)) (fun _ _ => True) (D 7 0) ?_ ?_ N 0 () (by omega) (by omega) trivial
  · simp only [q_X12_mean, hS, pk_ckT, eq_self, pk_letE, pk_lit]
    rw [pr_isWhat hS pk_w0, pk_bd2E, pk_Bt q, if_neg (by decide), if_pos q, e1, pk_bs]
    exact L
  · intro fu _ _
    rw [q_X12_mean_30]
    simp (disch := omega) only [hS, pk_ckT, pk_bs, pk_letE, pk_bd2E, pk_bd3E, if_true, if_false, eq_self, not_true_eq_false, not_false_eq_true, true_and, and_true, Nat.not_lt_zero, Nat.zero_le, Nat.reduceEqDiff, Nat.reduceLT, Nat.reduceLeDiff, pk_ck, e, nI_leI, Nat.le_refl, pk_lit, nI_eq]
    by_cases c : j = 0
    · rw [if_pos c, if_pos c]
    · rw [if_neg c, if_neg c]
  · intro fu i _ hi _ ih
    have r1 := hlt i hi
    have p1 : bk_rI V1 (r + 3) (2 * R i) = nI (D 8 (R i)) := (f1.rd (by omega)).trans (h3.1.2.2.2.1 (R i) r1).1
    have p2 : bk_rI V1 (r + 3) (2 * R i + 1) = nI (D 9 (R i)) := (f1.rd (by omega)).trans (h3.1.2.2.2.1 (R i) r1).2
    rw [q_X12_mean_30]
    simp (disch := omega) only [hS, pk_ckT, pk_bs, pk_letE, pk_bd2E, pk_bd3E, if_true, if_false, eq_self, not_true_eq_false, not_false_eq_true, true_and, and_true, Nat.not_lt_zero, Nat.zero_le, Nat.reduceEqDiff, Nat.reduceLT, Nat.reduceLeDiff, pk_ck, e, nI_leI, pk_lit, nI_clamp, pk_inE, g1 i hi, pk_mul, nI_add, p1, p2]
    rw [if_neg (by omega)]
    exact ih () trivial
theorem st_29 (hN : 20000 ≤ N) (hI : pk_IA z Y V) : bk_st29 N z (z + 58) (z + 86) Y V x1 x2 x3 x4 x5 (pk_IA z) := by
  obtain ⟨t, u, s, D, P, T, tl, st, hs, img, pl, fp, r0, r1, hJ, hR, hB, hC, hRA, hBA⟩ := hI.e
  rcases pk_ix2 x1 (n := 2) (by omega) with hx | ⟨j, hj, rfl⟩
  · have q := pk_out (m := 1) hx (by decide) (by decide)
    refine ⟨.inl 1, ?_, (fun e he => by cases he; rfl), pk_stT hC hRA hBA rfl (k := 1) (by decide) (v := nI 0) (fun Y1 V1 h1 h2 => ⟨_, ?_, pk_frR.rf⟩)⟩
    · simp only [q_X11_mean, pc_isWithin, pk_bs, pk_lit, pc_needE]
      rw [if_neg q, pk_bdxL]
    · simp only [q_X12_mean, h1, pk_ckT, eq_self, pk_letE, pk_lit]
      rw [pr_isWhat h1 pk_w0, pk_bd2E, pk_Bf q, if_pos rfl, if_neg q]
  · obtain ⟨R, hRo⟩ : ∃ R, R = sp_ord D (D 7 0) := ⟨_, rfl⟩
    obtain ⟨V1, e1, f1⟩ := pc_mean (N := N) (by omega) hJ hB hj hRo
    exact ⟨.inr (nI (if j = 0 then (sp_mn D R (D 7 0)).2.1 else (sp_mn D R (D 7 0)).2.2), V1), e1, (fun e he => by cases he), pk_stQ hC hRA hBA (hJ.dark f1) rfl (fun Y1 V1 h1 h2 => pr_mean (by omega) h1 h2 hB hj hRo)⟩
end
