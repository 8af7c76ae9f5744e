/-! tacks, cell -/
section
variable {N z t u s tl r a b c d k n j h m l p q0 md wa s' i : Nat} {Y Y' : bk_Lay} {V V' V2 W : bk_Val} {x y x1 x2 x3 x4 x5 : Int32} {w1 w2 : Int64} {D : Nat → Nat → Nat} {P : Nat → List Nat} {T T' w : Nat → Nat} {st st' g : pk_St} {hs hs' : List pk_St} {img img' : Option (pk_St × List pk_St)} {pl : Option (Nat → Nat)} {fp r0 r1 : Int32} {A B : pk_A}
abbrev sp_ov (D : Nat → Nat → Nat) (c h k : Nat) : Prop := D 11 k ≤ c ∧ c ≤ D 12 k ∧ h ≤ D 13 k
def sp_tk (D : Nat → Nat → Nat) (c h : Nat) : Bool := decide (∀ k, k < D 10 0 → (sp_ov D c h k ↔ D 14 k = 1))
theorem pc_tacksFit (hN : 1000 ≤ N) (hS : pk_Sd Y t) (hT : pk_CT V t D P) (hB : pk_DB D P) (hc : c < 100) (hh : h < 100) : q_X2_tacksFit N Y V (t + 10) (nI c) (nI h) = some (pk_B (sp_tk D c h = true)) := by
  obtain ⟨-, -, -, -, -, -, -, -, -, -, -, -, -, b1, b2, -⟩ := hB
  obtain ⟨-, -, -, -, -, -, c7, c8, -⟩ := hT
  have L := loop_i (σ := Unit) (fun n i _ => q_X2_tacksFit_2 N Y n V (t + 10) (nI c) (nI h) (nI i) = some (pk_B (sp_tk D c h = true)))
    (fun i _ => ∀ k, k < i → (sp_ov D c h k ↔ D 14 k = 1)) (D 10 0) ?_ ?_ N 0 () (by omega) (by omega) (fun k hk => by omega)
  · exact L
  · intro n _ hI
    simp (disch := omega) only [q_X2_tacksFit_2, hS, c7, pk_ckT, pk_bs, pk_letE, pk_bd2E, pk_bd3E, if_true, if_false, eq_self, not_true_eq_false, not_false_eq_true, true_and, and_true, Nat.not_lt_zero, Nat.zero_le, Nat.reduceEqDiff, Nat.reduceLT, Nat.reduceLeDiff, pk_ck, pk_lit, nI_add, pk_mul, nI_clamp, nI_leI, nI_ltI, nI_eq, pk_div, pk_remE, pk_inE, pk_sub, Nat.le_refl]
    rw [pk_Bt (show sp_tk D c h = true from decide_eq_true hI)]
  · intro n i _ hi hI ih
    obtain ⟨g1, g2, g3, g4⟩ := c8 i hi
    obtain ⟨d1, d2, d3, d4, d5, d6⟩ := b2 i hi
    have fin : ∀ v : Nat, v ≤ 1 → (v = 1 ↔ sp_ov D c h i) → q_X2_tacksFit_44 N Y (q_X2_tacksFit_2 N Y n) V (t + 10) (nI c) (nI h) (nI i) (nI v) = some (pk_B (sp_tk D c h = true)) := by
      intro v hv1 hv
      simp (disch := omega) only [q_X2_tacksFit_44, hS, pk_ckT, pk_bs, pk_letE, pk_bd2E, pk_bd3E, if_true, if_false, eq_self, not_true_eq_false, not_false_eq_true, true_and, and_true, Nat.not_lt_zero, Nat.zero_le, Nat.reduceEqDiff, Nat.reduceLT, Nat.reduceLeDiff, pk_ck, pk_lit, nI_add, pk_mul, nI_clamp, nI_leI, nI_ltI, nI_eq, pk_div, pk_remE, pk_inE, pk_sub, g4]
      by_cases e : v = D 14 i
      · rw [if_pos e]
        refine ih () (fun k hk => ?_)
        by_cases c : k = i
        · rw [c, ← hv, e]
        · exact hI k (by omega)
      · rw [if_neg e, pk_Bf]
        intro q
        have := (of_decide_eq_true q) i hi
        rw [← hv] at this
        omega
    rw [q_X2_tacksFit_2]
    simp (disch := omega) only [hS, c7, pk_ckT, pk_bs, pk_letE, pk_bd2E, pk_bd3E, if_true, if_false, eq_self, not_true_eq_false, not_false_eq_true, true_and, and_true, Nat.not_lt_zero, Nat.zero_le, Nat.reduceEqDiff, Nat.reduceLT, Nat.reduceLeDiff, pk_ck, pk_lit, nI_add, pk_mul, nI_clamp, nI_leI, nI_ltI, nI_eq, pk_div, pk_remE, pk_inE, pk_sub, g1, g2, g3, pc_isWithin, pk_B0, q_X2_tacksFit_43]
    rw [if_neg (by omega)]
    by_cases e1 : D 11 i ≤ c ∧ c ≤ D 12 i
    · rw [if_neg (fun q => q e1)]
      by_cases e2 : D 13 i < h
      · rw [if_pos e2]
        exact fin 0 (by omega) ⟨fun q => by omega, fun q => by have := q.2.2; omega⟩
      · rw [if_neg e2]
        exact fin 1 (by omega) ⟨fun _ => ⟨e1.1, e1.2, by omega⟩, fun _ => rfl⟩
    · rw [if_pos e1]
      exact fin 0 (by omega) ⟨fun q => by omega, fun q => absurd ⟨q.1, q.2.1⟩ e1⟩
theorem pr_isTacked (hN : 1000 ≤ N) (hS : pk_Rf Y r) (hT : pk_RT V r D P) (hB : pk_DB D P) (hc : c < 100) (hh : h < 100) : q_X12_isTacked N Y V r (nI c) (nI h) = some (pk_B (sp_tk D c h = true)) := by
  obtain ⟨-, -, -, -, -, -, -, -, -, -, -, -, -, b1, b2, -⟩ := hB
  obtain ⟨c1, -, -, -, c5, -⟩ := hT
  have L := loop_i (σ := Unit) (fun n i _ => q_X12_isTacked_2 N Y n V r (nI c) (nI h) (nI i) = some (pk_B (sp_tk D c h = true)))
    (fun i _ => ∀ k, k < i → (sp_ov D c h k ↔ D 14 k = 1)) (D 10 0) ?_ ?_ N 0 () (by omega) (by omega) (fun k hk => by omega)
  · exact L
  · intro n _ hI
    simp (disch := omega) only [q_X12_isTacked_2, hS, c1, pk_ckT, pk_bs, pk_letE, pk_bd2E, pk_bd3E, if_true, if_false, eq_self, not_true_eq_false, not_false_eq_true, true_and, and_true, Nat.not_lt_zero, Nat.zero_le, Nat.reduceEqDiff, Nat.reduceLT, Nat.reduceLeDiff, pk_ck, pk_lit, nI_add, pk_mul, nI_clamp, nI_leI, nI_ltI, nI_eq, pk_div, pk_remE, pk_inE, pk_sub, Nat.le_refl]
    rw [pk_Bt (show sp_tk D c h = true from decide_eq_true hI)]
  · intro n i _ hi hI ih
    obtain ⟨g1, g2, g3, g4⟩ := c5 i hi
    obtain ⟨d1, d2, d3, d4, d5, d6⟩ := b2 i hi
    have fin : ∀ v : Nat, v ≤ 1 → (v = 1 ↔ sp_ov D c h i) → q_X12_isTacked_85 N Y (q_X12_isTacked_2 N Y n) V r (nI c) (nI h) (nI i) (nI v) = some (pk_B (sp_tk D c h = true)) := by
      intro v hv1 hv
      simp (disch := omega) only [q_X12_isTacked_85, q_X12_isTacked_108, hS, pk_ckT, pk_bs, pk_letE, pk_bd2E, pk_bd3E, if_true, if_false, eq_self, not_true_eq_false, not_false_eq_true, true_and, and_true, Nat.not_lt_zero, Nat.zero_le, Nat.reduceEqDiff, Nat.reduceLT, Nat.reduceLeDiff, pk_ck, pk_lit, nI_add, pk_mul, nI_clamp, nI_leI, nI_ltI, nI_eq, pk_div, pk_remE, pk_inE, pk_sub, g4]
      have : (if D 14 i = 1 then if v = 1 then q_X12_isTacked_2 N Y n V r (nI c) (nI h) (nI (i + 1)) else some (nI 0) else if v = 0 then q_X12_isTacked_2 N Y n V r (nI c) (nI h) (nI (i + 1)) else some (nI 0)) = if v = D 14 i then q_X12_isTacked_2 N Y n V r (nI c) (nI h) (nI (i + 1)) else some (nI 0) := by
        by_cases e : D 14 i = 1
        · rw [if_pos e, e]
        · have e0 : D 14 i = 0 := by omega
          rw [if_neg e, e0]
      rw [this]
      by_cases e : v = D 14 i
      · rw [if_pos e]
        refine ih () (fun k hk => ?_)
        by_cases c : k = i
        · rw [c, ← hv, e]
        · exact hI k (by omega)
      · rw [if_neg e, pk_Bf]
        intro q
        have := (of_decide_eq_true q) i hi
        rw [← hv] at this
        omega
    have fin2 : (D 11 i ≤ c ∧ c ≤ D 12 i) → q_X12_isTacked_66 N Y (q_X12_isTacked_2 N Y n) V r (nI c) (nI h) (nI i) = some (pk_B (sp_tk D c h = true)) := by
      intro e1
      simp (disch := omega) only [q_X12_isTacked_66, q_X12_isTacked_84, hS, pk_ckT, pk_bs, pk_letE, pk_bd2E, pk_bd3E, if_true, if_false, eq_self, not_true_eq_false, not_false_eq_true, true_and, and_true, Nat.not_lt_zero, Nat.zero_le, Nat.reduceEqDiff, Nat.reduceLT, Nat.reduceLeDiff, pk_ck, pk_lit, nI_add, pk_mul, nI_clamp, nI_leI, nI_ltI, nI_eq, pk_div, pk_remE, pk_inE, pk_sub, g3]
      by_cases e2 : D 13 i < h
      · rw [if_pos e2]
        exact fin 0 (by omega) ⟨fun q => by omega, fun q => by have := q.2.2; omega⟩
      · rw [if_neg e2]
        exact fin 1 (by omega) ⟨fun _ => ⟨e1.1, e1.2, by omega⟩, fun _ => rfl⟩
    have fin0 : ¬ (D 11 i ≤ c ∧ c ≤ D 12 i) → q_X12_isTacked_84 N Y (q_X12_isTacked_2 N Y n) V r (nI c) (nI h) (nI i) = some (pk_B (sp_tk D c h = true)) := fun e1 => fin 0 (by omega) ⟨fun q => by omega, fun q => absurd ⟨q.1, q.2.1⟩ e1⟩
    rw [q_X12_isTacked_2]
    simp (disch := omega) only [hS, c1, pk_ckT, pk_bs, pk_letE, pk_bd2E, pk_bd3E, if_true, if_false, eq_self, not_true_eq_false, not_false_eq_true, true_and, and_true, Nat.not_lt_zero, Nat.zero_le, Nat.reduceEqDiff, Nat.reduceLT, Nat.reduceLeDiff, pk_ck, pk_lit, nI_add, pk_mul, nI_clamp, nI_leI, nI_ltI, nI_eq, pk_div, pk_remE, pk_inE, pk_sub, g1, g2]
    rw [if_neg (by omega)]
    by_cases e0 : D 16 i ≤ D 15 i
    · rw [if_pos e0]
      by_cases e1 : c < D 16 i
      · rw [if_pos e1]; exact fin0 (by omega)
      · rw [if_neg e1]
        by_cases e2 : D 15 i < c
        · rw [if_pos e2]; exact fin0 (by omega)
        · rw [if_neg e2]; exact fin2 (by omega)
    · rw [if_neg e0]
      by_cases e1 : c < D 15 i
      · rw [if_pos e1]; exact fin0 (by omega)
      · rw [if_neg e1]
        by_cases e2 : D 16 i < c
        · rw [if_pos e2]; exact fin0 (by omega)
        · rw [if_neg e2]; exact fin2 (by omega)
def sp_hrs (D : Nat → Nat → Nat) (c : Nat) : Nat := sp_cnt (sp_tk D c) 0 24
theorem pc_hours (hN : 1000 ≤ N) (hS : pk_Sd Y t) (hT : pk_CT V t D P) (hB : pk_DB D P) (hc : c < 100) : q_X2_hoursFitting N Y V (t + 10) (nI c) = some (nI (sp_hrs D c)) := by
  have L := loop_i (σ := Unit) (fun n i _ => q_X2_hoursFitting_4 N Y n V (t + 10) (nI c) (nI (sp_cnt (sp_tk D c) 0 i)) (nI i) = some (nI (sp_hrs D c))) (fun _ _ => True) 24 ?_ ?_ N 0 () (by omega) (by omega) trivial
  · exact L
  · intro n _ _
    simp (disch := omega) only [q_X2_hoursFitting_4, pk_ckT, pk_bs, pk_letE, pk_bd2E, pk_bd3E, if_true, if_false, eq_self, not_true_eq_false, not_false_eq_true, true_and, and_true, Nat.not_lt_zero, Nat.zero_le, Nat.reduceEqDiff, Nat.reduceLT, Nat.reduceLeDiff, pk_ck, pk_lit, nI_add, pk_mul, nI_clamp, nI_leI, nI_ltI, nI_eq, pk_div, pk_remE, pk_inE, pk_sub, Nat.le_refl]
    rfl
  · intro n i _ hi _ ih
    have ih2 := ih () trivial
    rw [sp_cnt_end, Nat.zero_add] at ih2
    rw [q_X2_hoursFitting_4, pc_tacksFit hN hS hT hB hc (by omega)]
    simp (disch := omega) only [hS, pk_ckT, pk_bs, pk_letE, pk_bd2E, pk_bd3E, if_true, if_false, eq_self, not_true_eq_false, not_false_eq_true, true_and, and_true, Nat.not_lt_zero, Nat.zero_le, Nat.reduceEqDiff, Nat.reduceLT, Nat.reduceLeDiff, pk_ck, pk_lit, nI_add, pk_mul, nI_clamp, nI_leI, nI_ltI, nI_eq, pk_div, pk_remE, pk_inE, pk_sub, pk_B0, q_X2_hoursFitting_25]
    rw [if_neg (by omega)]
    by_cases e : sp_tk D c i = true
    · rw [if_pos e] at ih2
      rw [if_neg (fun q => q e)]; exact ih2
    · rw [if_neg e] at ih2
      rw [if_pos e]; exact ih2
theorem pr_hours (hN : 1000 ≤ N) (hS : pk_Rf Y r) (hT : pk_RT V r D P) (hB : pk_DB D P) (hc : c < 100) : q_X12_hoursOf N Y V r (nI c) = some (nI (sp_hrs D c)) := by
  have L := loop_i (σ := Unit) (fun n i _ => q_X12_hoursOf_4 N Y n V r (nI c) (nI (sp_cnt (sp_tk D c) 0 i)) (nI i) = some (nI (sp_hrs D c))) (fun _ _ => True) 24 ?_ ?_ N 0 () (by omega) (by omega) trivial
  · exact L
  · intro n _ _
    simp (disch := omega) only [q_X12_hoursOf_4, pk_ckT, pk_bs, pk_letE, pk_bd2E, pk_bd3E, if_true, if_false, eq_self, not_true_eq_false, not_false_eq_true, true_and, and_true, Nat.not_lt_zero, Nat.zero_le, Nat.reduceEqDiff, Nat.reduceLT, Nat.reduceLeDiff, pk_ck, pk_lit, nI_add, pk_mul, nI_clamp, nI_leI, nI_ltI, nI_eq, pk_div, pk_remE, pk_inE, pk_sub, Nat.le_refl]
    rfl
  · intro n i _ hi _ ih
    have ih2 := ih () trivial
    rw [sp_cnt_end, Nat.zero_add] at ih2
    rw [q_X12_hoursOf_4, pr_isTacked hN hS hT hB hc (by omega)]
    simp (disch := omega) only [hS, pk_ckT, pk_bs, pk_letE, pk_bd2E, pk_bd3E, if_true, if_false, eq_self, not_true_eq_false, not_false_eq_true, true_and, and_true, Nat.not_lt_zero, Nat.zero_le, Nat.reduceEqDiff, Nat.reduceLT, Nat.reduceLeDiff, pk_ck, pk_lit, nI_add, pk_mul, nI_clamp, nI_leI, nI_ltI, nI_eq, pk_div, pk_remE, pk_inE, pk_sub, pk_B0, q_X12_hoursOf_25]
    rw [if_neg (by omega)]
    by_cases e : sp_tk D c i = true
    · rw [if_pos e] at ih2
      rw [if_neg (fun q => q e)]; exact ih2
    · rw [if_neg e] at ih2
      rw [if_pos e]; exact ih2
theorem st_31 (hN : 20000 ≤ N) (hI : pk_IA z Y V) : bk_st31 N z (z + 58) (z + 86) Y V x1 x2 x3 x4 x5 (pk_IA z) := by
  obtain ⟨t, u, s, D, P, T, tl, st, hs, img, pl, fp, r0, r1, hJ, hR, hB, hC, hRA, hBA⟩ := hI.e
  obtain ⟨hM, hS, hz, hT, hs5, -⟩ := hJ.o
  rcases pk_ix2 x1 (n := 40) (by omega) with hx | ⟨j, hj, rfl⟩
  · have q := pk_out (m := 39) hx (by decide) (by decide)
    refine ⟨.inl 1, ?_, (fun e he => by cases he; rfl), pk_stT hC hRA hBA rfl (k := 1) (by decide) (v := nI 0) (fun Y1 V1 h1 h2 => ⟨_, ?_, pk_frR.rf⟩)⟩
    · simp only [q_X11_cell, pc_isWithin, pk_bs, pk_lit, pc_needE]
      rw [if_neg q, pk_bdxL]
    · have e9 : q_X12_right N Y1 (bk_wI V1 (z + 58) 0 (nI 0)) (z + 58) (nI 0) (nI 1) = some (nI 0, bk_wI (bk_wI V1 (z + 58) 0 (nI 0)) (z + 58) 0 (nI 1)) := pr_right (c := False) h1 pk_w0 (Or.inl rfl)
      simp only [q_X12_cell, q_X12_cell_20, q_X12_cell_21, h1, pk_ckT, eq_self, pk_letE, pk_lit, e9, pk_bd2E, if_true]
      by_cases c1 : x1 < nI 0
      · rw [if_pos c1]
      · rw [if_neg c1, if_pos (hx.resolve_left c1)]
  · have q := pk_inn (m := 39) hj (by decide) rfl
    refine ⟨.inr (nI (sp_hrs D j)), ?_, (fun e he => by cases he), pk_stQ hC hRA hBA ⟨hC, pk_offR.rf⟩ rfl (fun Y1 V1 h1 h2 => ⟨_, ?_, pk_frR.rf⟩)⟩
    · simp only [q_X11_cell, pc_isWithin, pk_bs, pk_lit, pc_needE]
      rw [if_pos q, pk_bdxR]
      simp only [hM, hz, hS, pk_ckT, pk_bs, pk_letE, pk_bd2E, pk_bd3E, if_true, if_false, eq_self, not_true_eq_false, not_false_eq_true, true_and, and_true, Nat.not_lt_zero, Nat.zero_le, Nat.reduceEqDiff, Nat.reduceLT, Nat.reduceLeDiff, pk_ck, pc_hours (show 1000 ≤ N by omega) hS hT hB.1 (show j < 100 by omega)]
    · have h3 : pk_JR (z + 58) (bk_wI V1 (z + 58) 0 (nI 0)) D P T tl st hs img pl fp r0 r1 := pk_JR.w0 h2
      have e9 : q_X12_right N Y1 (bk_wI V1 (z + 58) 0 (nI 0)) (z + 58) (nI 1) (nI 1) = some (nI 1, bk_wI V1 (z + 58) 0 (nI 0)) := pr_right (c := True) h1 pk_w0 (Or.inl rfl)
      simp (disch := omega) only [q_X12_cell, q_X12_cell_21, h1, pk_ckT, eq_self, pk_letE, pk_lit, e9, pk_bd2E, nI_ltI, nI_leI, nI_eq, pr_hours (show 1000 ≤ N by omega) h1 h3.1 hB.1 (show j < 100 by omega), pk_bs]
      rw [if_neg (by omega), if_neg (by omega), if_neg (by omega)]
/-! tacks -/
def sp_sr (f : Nat → Nat) : Nat → Nat → Nat
  | _, 0 => 0
  | i, n + 1 => f i + sp_sr f (i + 1) n
theorem sp_sr_end {f : Nat → Nat} : ∀ n i, sp_sr f i (n + 1) = sp_sr f i n + f (i + n)
  | 0, i => by simp only [sp_sr, Nat.add_zero]; omega
  | n + 1, i => by
    rw [sp_sr, sp_sr_end n (i + 1), sp_sr, show i + 1 + n = i + (n + 1) by omega]
    omega
theorem sp_sr_hd {f : Nat → Nat} {i n : Nat} (h : 0 < n) : sp_sr f i n = f i + sp_sr f (i + 1) (n - 1) := by
  obtain ⟨m, rfl⟩ : ∃ m, n = m + 1 := ⟨n - 1, by omega⟩
  rfl
theorem sp_hrs_le : sp_hrs D c ≤ 24 := sp_cnt_le _ _
def sp_fc (D : Nat → Nat → Nat) : Nat → Bool := fun c => decide (0 < sp_hrs D c)
def sp_tacks (D : Nat → Nat → Nat) (w : Nat) : Int32 := if w = 0 then nI (sp_sr (sp_hrs D) 0 40) else if w = 1 then pk_on (sp_find (sp_fc D) 0 40) else match sp_find (sp_fc D) 0 40 with
  | none => -nI 1
  | some c => pk_on (sp_find (sp_tk D c) 0 24)
theorem sp_cnt_pos {f : Nat → Bool} : ∀ {n i : Nat}, 0 < sp_cnt f i n → ∃ k, sp_find f i n = some k
  | 0, _, h => by cases h
  | n + 1, i, h => by
    rw [sp_find]
    by_cases c : f i = true
    · exact ⟨i, if_pos c⟩
    · rw [if_neg c]
      rw [sp_cnt, if_neg c, Nat.zero_add] at h
      exact sp_cnt_pos h
theorem pc_firstHour (hN : 1000 ≤ N) (hS : pk_Sd Y t) (hT : pk_CT V t D P) (hB : pk_DB D P) (hc : c < 100) : q_X2_firstHourFitting N Y V (t + 10) (nI c) = some (pk_on (sp_find (sp_tk D c) 0 24)) := by
  have L := loop_i (σ := Unit) (fun n i _ => q_X2_firstHourFitting_2 N Y n V (t + 10) (nI c) (nI i) = some (pk_on (sp_find (sp_tk D c) i (24 - i)))) (fun _ _ => True) 24 ?_ ?_ N 0 () (by omega) (by omega) trivial
  · exact L
  · intro n _ _
    simp (disch := omega) only [q_X2_firstHourFitting_2, pk_ckT, pk_bs, pk_letE, pk_bd2E, pk_bd3E, if_true, if_false, eq_self, not_true_eq_false, not_false_eq_true, true_and, and_true, Nat.not_lt_zero, Nat.zero_le, Nat.reduceEqDiff, Nat.reduceLT, Nat.reduceLeDiff, pk_ck, pk_lit, nI_add, pk_mul, nI_clamp, nI_leI, nI_ltI, nI_eq, pk_div, pk_remE, pk_inE, pk_sub, Nat.le_refl]
    rfl
  · intro n i _ hi _ ih
    rw [q_X2_firstHourFitting_2, pc_tacksFit hN hS hT hB hc (by omega), show 24 - i = (24 - (i + 1)) + 1 by omega, sp_find]
    simp (disch := omega) only [hS, pk_ckT, pk_bs, pk_letE, pk_bd2E, pk_bd3E, if_true, if_false, eq_self, not_true_eq_false, not_false_eq_true, true_and, and_true, Nat.not_lt_zero, Nat.zero_le, Nat.reduceEqDiff, Nat.reduceLT, Nat.reduceLeDiff, pk_ck, pk_lit, nI_add, pk_mul, nI_clamp, nI_leI, nI_ltI, nI_eq, pk_div, pk_remE, pk_inE, pk_sub, pk_B0]
    rw [if_neg (by omega)]
    by_cases e : sp_tk D c i = true
    · rw [if_pos e, if_neg (fun q => q e)]; rfl
    · rw [if_neg e, if_pos e]; exact ih () trivial
theorem pr_firstHour (hS : pk_Rf Y r) (hN : 1000 ≤ N) (hT : pk_RT V r D P) (hB : pk_DB D P) (hc : c < 100) (hk : sp_find (sp_tk D c) 0 24 = some k) : q_X12_tacks_79 N Y N V r (nI c) (nI 0) = some (nI k, V) := by
  have hk2 := sp_find_lt hk
  have L := loop_i (σ := Unit) (fun n i _ => q_X12_tacks_79 N Y n V r (nI c) (nI i) = some (nI k, V)) (fun i _ => sp_find (sp_tk D c) i (24 - i) = some k) k ?_ ?_ N 0 () (by omega) (by omega) hk
  · exact L
  · intro n _ hI
    rw [q_X12_tacks_79, pr_isTacked hN hS hT hB hc (by omega)]
    simp only [hS, pk_ckT, pk_bs, pk_letE, pk_bd2E, pk_bd3E, if_true, if_false, eq_self, not_true_eq_false, not_false_eq_true, true_and, and_true, Nat.not_lt_zero, Nat.zero_le, Nat.reduceEqDiff, Nat.reduceLT, Nat.reduceLeDiff, pk_ck, pk_lit, pk_B0]
    rw [if_neg (fun q => q hk2.2.2)]
  · intro n i _ hi hI ih
    rw [q_X12_tacks_79, pr_isTacked hN hS hT hB hc (by omega)]
    simp only [hS, pk_ckT, pk_bs, pk_letE, pk_bd2E, pk_bd3E, if_true, if_false, eq_self, not_true_eq_false, not_false_eq_true, true_and, and_true, Nat.not_lt_zero, Nat.zero_le, Nat.reduceEqDiff, Nat.reduceLT, Nat.reduceLeDiff, pk_ck, pk_lit, pk_B0, nI_add]
    rw [show 24 - i = (24 - (i + 1)) + 1 by omega, sp_find] at hI
    by_cases e : sp_tk D c i = true
    · rw [if_pos e] at hI
      cases hI
      omega
    · rw [if_neg e] at hI
      rw [if_pos e]
      exact ih () hI
theorem pk_onm1 {o : Option Nat} (h : ∀ k, o = some k → k < 2 ^ 31) : (pk_on o = -nI 1) = (o = none) := by
  cases o with
  | none => exact propext ⟨fun _ => rfl, fun _ => rfl⟩
  | some k =>
    have := pk_eqm1 (a := k) (h k rfl)
    rw [show pk_on (some k) = nI k from rfl, this]
    exact propext ⟨fun q => q.elim, fun q => by cases q⟩
theorem pc_tacks (hN : 1000 ≤ N) (hJ : pk_JC z Y V t u s D P T tl st hs img pl fp r0 r1) (hB : pk_DB D P) (hw : j < 3) : q_X11_tacks N Y V z (nI j) = some (.inr (sp_tacks D j)) := by
  obtain ⟨hM, hS, hz, hT, hs5, -⟩ := hJ.o
  have L := loop_i (σ := Unit) (fun n i _ => q_X11_tacks_16 N Y n V z (nI j) (nI (sp_sr (sp_hrs D) 0 i)) (pk_on (sp_find (sp_fc D) 0 i)) (nI i) = some (.inr (sp_tacks D j))) (fun _ _ => True) 40 ?_ ?_ N 0 () (by omega) (by omega) trivial
  · simp only [q_X11_tacks, pc_isWithin, pk_bs, pk_lit, pc_needE]
    rw [if_pos (pk_inn hw (by decide) rfl), pk_bdxR]
    exact L
  · intro n _ _
    rw [q_X11_tacks_16]
    simp (disch := omega) only [pk_ckT, pk_bs, pk_letE, pk_bd2E, pk_bd3E, if_true, if_false, eq_self, not_true_eq_false, not_false_eq_true, true_and, and_true, Nat.not_lt_zero, Nat.zero_le, Nat.reduceEqDiff, Nat.reduceLT, Nat.reduceLeDiff, pk_ck, pk_lit, nI_add, pk_mul, nI_clamp, nI_leI, nI_ltI, nI_eq, pk_div, pk_remE, pk_inE, pk_sub, Nat.le_refl]
    unfold sp_tacks
    by_cases e0 : j = 0
    · rw [if_pos e0, if_pos e0]
    · rw [if_neg e0, if_neg e0]
      by_cases e1 : j = 1
      · rw [if_pos e1, if_pos e1]
      · rw [if_neg e1, if_neg e1]
        cases hf : sp_find (sp_fc D) 0 40 with
        | none => rw [if_pos (show pk_on none = -nI 1 from rfl)]; rfl
        | some c =>
          have := sp_find_lt hf
          rw [if_neg (show ¬ pk_on (some c) = -nI 1 by rw [pk_onm1 (fun k hk => by cases hk; omega)]; intro q; cases q), show pk_on (some c) = nI c from rfl]
          simp only [hM, hz, hS, pk_ckT, pk_bs, pk_letE, pk_bd2E, pk_bd3E, if_true, if_false, eq_self, not_true_eq_false, not_false_eq_true, true_and, and_true, Nat.not_lt_zero, Nat.zero_le, Nat.reduceEqDiff, Nat.reduceLT, Nat.reduceLeDiff, pk_ck, pc_firstHour hN hS hT hB (show c < 100 by omega)]
  · intro n i _ hi _ ih
    have ih2 := ih () trivial
    have hle := sp_hrs_le (D := D) (c := i)
    rw [sp_sr_end, sp_find_end, Nat.zero_add] at ih2
    rw [q_X11_tacks_16]
    simp (disch := omega) only [hM, hz, hS, pk_ckT, pk_bs, pk_letE, pk_bd2E, pk_bd3E, if_true, if_false, eq_self, not_true_eq_false, not_false_eq_true, true_and, and_true, Nat.not_lt_zero, Nat.zero_le, Nat.reduceEqDiff, Nat.reduceLT, Nat.reduceLeDiff, pk_ck, pk_lit, nI_add, pk_mul, nI_clamp, nI_leI, nI_ltI, nI_eq, pk_div, pk_remE, pk_inE, pk_sub, pc_hours hN hS hT hB (show i < 100 by omega), q_X11_tacks_55]
    rw [if_neg (by omega)]
    cases hf : sp_find (sp_fc D) 0 i with
    | none =>
      rw [hf] at ih2
      by_cases e : sp_hrs D i ≤ 0
      · simp only [if_neg (show ¬ sp_fc D i = true from fun q => by have := of_decide_eq_true q; omega)] at ih2
        rw [if_pos e]
        exact ih2
      · simp only [if_pos (show sp_fc D i = true from decide_eq_true (by omega))] at ih2
        rw [if_neg e, if_pos (show pk_on none = -nI 1 from rfl)]
        exact ih2
    | some c =>
      have := sp_find_lt hf
      rw [hf] at ih2
      have e2 : ¬ pk_on (some c) = -nI 1 := by rw [pk_onm1 (fun k hk => by cases hk; omega)]; intro q; cases q
      rw [if_neg e2]
      by_cases e : sp_hrs D i ≤ 0
      · rw [if_pos e]; exact ih2
      · rw [if_neg e]; exact ih2
theorem pr_tacks (hN : 1000 ≤ N) (hS : pk_Rf Y r) (hR : pk_JR r V D P T tl st hs img pl fp r0 r1) (hB : pk_DB D P) (hw : j < 3) : q_X12_tacks N Y V r (nI j) = some (sp_tacks D j, bk_wI V r 0 (nI 0)) := by
  have h3 := hR.w0 (x := nI 0)
  have fin : ∀ n, q_X12_tacks_24 N Y (n + 1) (bk_wI V r 0 (nI 0)) r (nI j) (nI (sp_sr (sp_hrs D) 0 40)) (pk_on (sp_find (sp_fc D) 0 40)) (nI 0 + -nI 1) = some (sp_tacks D j, bk_wI V r 0 (nI 0)) := by
    intro n
    rw [q_X12_tacks_24, if_pos (by decide)]
    simp (disch := omega) only [pk_ckT, pk_bs, pk_letE, pk_bd2E, pk_bd3E, if_true, if_false, eq_self, not_true_eq_false, not_false_eq_true, true_and, and_true, Nat.not_lt_zero, Nat.zero_le, Nat.reduceEqDiff, Nat.reduceLT, Nat.reduceLeDiff, pk_ck, pk_lit, nI_add, pk_mul, nI_clamp, nI_leI, nI_ltI, nI_eq, pk_div, pk_remE, pk_inE, pk_sub, q_X12_tacks_66]
    unfold sp_tacks
    by_cases e0 : j = 0
    · rw [if_pos (by omega), if_pos e0, if_pos e0]
    · by_cases e1 : j = 1
      · rw [if_pos (by omega), if_neg e0, if_neg e0, if_pos e1]
      · rw [if_neg (by omega), if_neg e0, if_neg e0, if_neg e1]
        cases hf : sp_find (sp_fc D) 0 40 with
        | none => rw [if_pos (show pk_on none = -nI 1 from rfl)]; rfl
        | some c =>
          have h1 := sp_find_lt hf
          obtain ⟨k, hk⟩ := sp_cnt_pos (f := sp_tk D c) (i := 0) (n := 24) (of_decide_eq_true h1.2.2)
          rw [if_neg (show ¬ pk_on (some c) = -nI 1 by rw [pk_onm1 (fun k hk => by cases hk; omega)]; intro q; cases q), show pk_on (some c) = nI c from rfl, pr_firstHour hS hN h3.1 hB (by omega) hk]
          simp only [hk]
          rfl
  have L : ∀ (i n : Nat), i < 40 → i + 1 < n → q_X12_tacks_24 N Y n (bk_wI V r 0 (nI 0)) r (nI j) (nI (sp_sr (sp_hrs D) (i + 1) (39 - i))) (pk_on (sp_find (sp_fc D) (i + 1) (39 - i))) (nI i) = some (sp_tacks D j, bk_wI V r 0 (nI 0)) := by
    intro i
    induction i with
    | zero =>
      intro n hi hn
      obtain ⟨n, rfl⟩ : ∃ n', n = n' + 2 := ⟨n - 2, by omega⟩
      have f1 := fin n
      have hle := sp_hrs_le (D := D) (c := 0)
      rw [sp_sr_hd (by omega), sp_find_hd (by omega)] at f1
      rw [q_X12_tacks_24]
      simp (disch := omega) only [hS, pk_ckT, pk_bs, pk_letE, pk_bd2E, pk_bd3E, if_true, if_false, eq_self, not_true_eq_false, not_false_eq_true, true_and, and_true, Nat.not_lt_zero, Nat.zero_le, Nat.reduceEqDiff, Nat.reduceLT, Nat.reduceLeDiff, pk_ck, pk_lit, nI_add, pk_mul, nI_clamp, nI_leI, nI_ltI, nI_eq, pk_div, pk_remE, pk_inE, pk_sub, pr_hours hN hS h3.1 hB (show 0 < 100 by omega), q_X12_tacks_50]
      by_cases e : sp_hrs D 0 ≤ 0
      · rw [if_neg (show ¬ sp_fc D 0 = true from fun q => by have := of_decide_eq_true q; omega), Nat.add_comm (sp_hrs D 0)] at f1
        rw [if_pos e]; exact f1
      · rw [if_pos (show sp_fc D 0 = true from decide_eq_true (by omega)), Nat.add_comm (sp_hrs D 0)] at f1
        rw [if_neg e]; exact f1
    | succ i ih =>
      intro n hi hn
      obtain ⟨n, rfl⟩ : ∃ n', n = n' + 1 := ⟨n - 1, by omega⟩
      have ih2 := ih n (by omega) (by omega)
      have hle := sp_hrs_le (D := D) (c := i + 1)
      rw [sp_sr_hd (by omega), sp_find_hd (by omega), show 39 - i - 1 = 39 - (i + 1) by omega] at ih2
      rw [q_X12_tacks_24]
      simp (disch := omega) only [hS, pk_ckT, pk_bs, pk_letE, pk_bd2E, pk_bd3E, if_true, if_false, eq_self, not_true_eq_false, not_false_eq_true, true_and, and_true, Nat.not_lt_zero, Nat.zero_le, Nat.reduceEqDiff, Nat.reduceLT, Nat.reduceLeDiff, pk_ck, pk_lit, nI_add, pk_mul, nI_clamp, nI_leI, nI_ltI, nI_eq, pk_div, pk_remE, pk_inE, pk_sub, pr_hours hN hS h3.1 hB (show i + 1 < 100 by omega), q_X12_tacks_50, pk_addm1, Nat.add_sub_cancel]
      by_cases e : sp_hrs D (i + 1) ≤ 0
      · rw [if_neg (show ¬ sp_fc D (i + 1) = true from fun q => by have := of_decide_eq_true q; omega), Nat.add_comm (sp_hrs D (i + 1))] at ih2
        rw [if_pos e]; exact ih2
      · rw [if_pos (show sp_fc D (i + 1) = true from decide_eq_true (by omega)), Nat.add_comm (sp_hrs D (i + 1))] at ih2
        rw [if_neg e]; exact ih2
  have e1 := L 39 N (by omega) (by omega)
  simp only [q_X12_tacks, hS, pk_ckT, eq_self, pk_letE, pk_lit]
  rw [pr_isWhat hS pk_w0, pk_bd2E, pk_Bt (pk_inn hw (by decide) rfl), if_neg (by decide), if_pos (pk_inn (n := 3) hw (by decide) rfl)]
  exact e1
theorem st_30 (hN : 20000 ≤ N) (hI : pk_IA z Y V) : bk_st30 N z (z + 58) (z + 86) Y V x1 x2 x3 x4 x5 (pk_IA z) := by
  obtain ⟨t, u, s, D, P, T, tl, st, hs, img, pl, fp, r0, r1, hJ, hR, hB, hC, hRA, hBA⟩ := hI.e
  rcases pk_ix2 x1 (n := 3) (by omega) with hx | ⟨j, hj, rfl⟩
  · have q := pk_out (m := 2) hx (by decide) (by decide)
    refine ⟨.inl 1, ?_, (fun e he => by cases he; rfl), pk_stT hC hRA hBA rfl (k := 1) (by decide) (v := nI 0) (fun Y1 V1 h1 h2 => ⟨_, ?_, pk_frR.rf⟩)⟩
    · simp only [q_X11_tacks, pc_isWithin, pk_bs, pk_lit, pc_needE]
      rw [if_neg q, pk_bdxL]
    · simp only [q_X12_tacks, h1, pk_ckT, eq_self, pk_letE, pk_lit]
      rw [pr_isWhat h1 pk_w0, pk_bd2E, pk_Bf q, if_pos rfl, if_neg q]
  · exact ⟨.inr (sp_tacks D j), pc_tacks (by omega) hJ hB.1 hj, (fun e he => by cases he), pk_stQ hC hRA hBA ⟨hC, pk_offR.rf⟩ rfl (fun Y1 V1 h1 h2 => ⟨_, pr_tacks (by omega) h1 h2 hB.1 hj, pk_frR.rf⟩)⟩
end
