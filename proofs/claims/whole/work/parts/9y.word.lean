/-! the lines: none, causes, trials, rules -/
def tq_P (P : Nat → List Nat) (h : Nat) (c : List Nat) : Nat → List Nat := fun w => if w = h then c else P w
section
variable {N z t u s r a b c d k n j h m l p q q0 md wa s' i f gg v S L g lo hi w : Nat} {Y Y2 Y' : bk_Lay} {V V' V1 V2 : bk_Val} {x y x1 x2 x3 x4 x5 ee : Int32} {T T' R G In : Nat → Nat} {D D' : Nat → Nat → Nat} {P P' : Nat → List Nat} {B B' : Nat → Bool} {K : List Nat} {o : pk_O} {X : Option (Int32 × bk_Val)} {XR : Option bk_Val}
theorem pc_line30 (H : pk_cL N z u Y) (hp : pk_PC z V T L p) (hw : tq_w T L p = 30) : q_X8_readLine N Y V (z + 54) = bk_bd2 (q_X8_readOnce N Y V (z + 54) (nI 8)) (fun r_77 V_78 => if r_77 = nI 0 then some (nI 0, V_78) else bk_bd2 (q_X8_readExpr N Y V_78 (z + 54) (u + 15) (nI 0)) (fun r_98 V_99 => if r_98 = nI 0 then some (nI 0, V_99) else bk_bd2 (q_X8_readSign N Y V_99 (z + 54) (nI 59)) (fun r_26 V_27 => if r_26 = nI 0 then some (nI 0, V_27) else some (nI 1, V_27)))) := by
  have ⟨hN, hM, hS, hi, u1, u2⟩ := H
  have hs : tq_sI 30 = -nI 1 := rfl
  unfold q_X8_readLine
  simp only [hM, hS, hi, pk_ckT, pk_bs, pk_letE, pk_bd2E, pk_bd3E, if_true, if_false, eq_self, not_true_eq_false, not_false_eq_true, true_and, and_true, Nat.not_lt_zero, Nat.zero_le, Nat.reduceEqDiff, Nat.reduceLT, Nat.reduceLeDiff, pk_ck, pc_setN H hp, hs, pc_wrd H hp, show (0 < 8 ∧ 8 < 36) from by omega, show (0 < 20 ∧ 20 < 36) from by omega, show (0 < 21 ∧ 21 < 36) from by omega, show (0 < 27 ∧ 27 < 36) from by omega, show (0 < 32 ∧ 32 < 36) from by omega, show (0 < 33 ∧ 33 < 36) from by omega, pk_lit, pk_B0, tq_G, List.getD_cons_succ, List.getD_cons_zero, hw, Nat.reduceEqDiff]
theorem pc_line31 (H : pk_cL N z u Y) (hp : pk_PC z V T L p) (hw : tq_w T L p = 31) : q_X8_readLine N Y V (z + 54) = bk_bd2 (q_X8_readOnce N Y V (z + 54) (nI 9)) (fun r_77 V_78 => if r_77 = nI 0 then some (nI 0, V_78) else bk_bd2 (q_X8_readExpr N Y V_78 (z + 54) (u + 18) (nI 0)) (fun r_98 V_99 => if r_98 = nI 0 then some (nI 0, V_99) else bk_bd2 (q_X8_readSign N Y V_99 (z + 54) (nI 59)) (fun r_26 V_27 => if r_26 = nI 0 then some (nI 0, V_27) else some (nI 1, V_27)))) := by
  have ⟨hN, hM, hS, hi, u1, u2⟩ := H
  have hs : tq_sI 31 = -nI 1 := rfl
  unfold q_X8_readLine
  simp only [hM, hS, hi, pk_ckT, pk_bs, pk_letE, pk_bd2E, pk_bd3E, if_true, if_false, eq_self, not_true_eq_false, not_false_eq_true, true_and, and_true, Nat.not_lt_zero, Nat.zero_le, Nat.reduceEqDiff, Nat.reduceLT, Nat.reduceLeDiff, pk_ck, pc_setN H hp, hs, pc_wrd H hp, show (0 < 8 ∧ 8 < 36) from by omega, show (0 < 20 ∧ 20 < 36) from by omega, show (0 < 21 ∧ 21 < 36) from by omega, show (0 < 27 ∧ 27 < 36) from by omega, show (0 < 32 ∧ 32 < 36) from by omega, show (0 < 33 ∧ 33 < 36) from by omega, pk_lit, pk_B0, tq_G, List.getD_cons_succ, List.getD_cons_zero, hw, Nat.reduceEqDiff]
theorem pc_line18 (H : pk_cL N z u Y) (hp : pk_PC z V T L p) (hw : tq_w T L p = 18) : q_X8_readLine N Y V (z + 54) = bk_bd2 (q_X8_readHole N Y V (z + 54)) (fun r_98 V_99 => if r_98 = nI 0 then some (nI 0, V_99) else bk_bd2 (q_X8_readSign N Y V_99 (z + 54) (nI 59)) (fun r_26 V_27 => if r_26 = nI 0 then some (nI 0, V_27) else some (nI 1, V_27))) := by
  have ⟨hN, hM, hS, hi, u1, u2⟩ := H
  have hs : tq_sI 18 = -nI 1 := rfl
  unfold q_X8_readLine
  simp only [hM, hS, hi, pk_ckT, pk_bs, pk_letE, pk_bd2E, pk_bd3E, if_true, if_false, eq_self, not_true_eq_false, not_false_eq_true, true_and, and_true, Nat.not_lt_zero, Nat.zero_le, Nat.reduceEqDiff, Nat.reduceLT, Nat.reduceLeDiff, pk_ck, pc_setN H hp, hs, pc_wrd H hp, show (0 < 8 ∧ 8 < 36) from by omega, show (0 < 20 ∧ 20 < 36) from by omega, show (0 < 21 ∧ 21 < 36) from by omega, show (0 < 27 ∧ 27 < 36) from by omega, show (0 < 32 ∧ 32 < 36) from by omega, show (0 < 33 ∧ 33 < 36) from by omega, pk_lit, pk_B0, tq_G, List.getD_cons_succ, List.getD_cons_zero, hw, Nat.reduceEqDiff]
theorem pc_line25 (H : pk_cL N z u Y) (hp : pk_PC z V T L p) (hw : tq_w T L p = 25) : q_X8_readLine N Y V (z + 54) = bk_bd2 (q_X8_readCause N Y V (z + 54)) (fun r_98 V_99 => if r_98 = nI 0 then some (nI 0, V_99) else bk_bd2 (q_X8_readSign N Y V_99 (z + 54) (nI 59)) (fun r_26 V_27 => if r_26 = nI 0 then some (nI 0, V_27) else some (nI 1, V_27))) := by
  have ⟨hN, hM, hS, hi, u1, u2⟩ := H
  have hs : tq_sI 25 = -nI 1 := rfl
  unfold q_X8_readLine
  simp only [hM, hS, hi, pk_ckT, pk_bs, pk_letE, pk_bd2E, pk_bd3E, if_true, if_false, eq_self, not_true_eq_false, not_false_eq_true, true_and, and_true, Nat.not_lt_zero, Nat.zero_le, Nat.reduceEqDiff, Nat.reduceLT, Nat.reduceLeDiff, pk_ck, pc_setN H hp, hs, pc_wrd H hp, show (0 < 8 ∧ 8 < 36) from by omega, show (0 < 20 ∧ 20 < 36) from by omega, show (0 < 21 ∧ 21 < 36) from by omega, show (0 < 27 ∧ 27 < 36) from by omega, show (0 < 32 ∧ 32 < 36) from by omega, show (0 < 33 ∧ 33 < 36) from by omega, pk_lit, pk_B0, tq_G, List.getD_cons_succ, List.getD_cons_zero, hw, Nat.reduceEqDiff]
theorem pc_line26 (H : pk_cL N z u Y) (hp : pk_PC z V T L p) (hw : tq_w T L p = 26) : q_X8_readLine N Y V (z + 54) = bk_bd2 (q_X8_readTry N Y V (z + 54)) (fun r_98 V_99 => if r_98 = nI 0 then some (nI 0, V_99) else bk_bd2 (q_X8_readSign N Y V_99 (z + 54) (nI 59)) (fun r_26 V_27 => if r_26 = nI 0 then some (nI 0, V_27) else some (nI 1, V_27))) := by
  have ⟨hN, hM, hS, hi, u1, u2⟩ := H
  have hs : tq_sI 26 = -nI 1 := rfl
  unfold q_X8_readLine
  simp only [hM, hS, hi, pk_ckT, pk_bs, pk_letE, pk_bd2E, pk_bd3E, if_true, if_false, eq_self, not_true_eq_false, not_false_eq_true, true_and, and_true, Nat.not_lt_zero, Nat.zero_le, Nat.reduceEqDiff, Nat.reduceLT, Nat.reduceLeDiff, pk_ck, pc_setN H hp, hs, pc_wrd H hp, show (0 < 8 ∧ 8 < 36) from by omega, show (0 < 20 ∧ 20 < 36) from by omega, show (0 < 21 ∧ 21 < 36) from by omega, show (0 < 27 ∧ 27 < 36) from by omega, show (0 < 32 ∧ 32 < 36) from by omega, show (0 < 33 ∧ 33 < 36) from by omega, pk_lit, pk_B0, tq_G, List.getD_cons_succ, List.getD_cons_zero, hw, Nat.reduceEqDiff]
theorem pc_line27 (H : pk_cL N z u Y) (hp : pk_PC z V T L p) (hw : tq_w T L p = 27) : q_X8_readLine N Y V (z + 54) = bk_bd2 (q_X8_readRider N Y V (z + 54)) (fun r_98 V_99 => if r_98 = nI 0 then some (nI 0, V_99) else bk_bd2 (q_X8_readSign N Y V_99 (z + 54) (nI 59)) (fun r_26 V_27 => if r_26 = nI 0 then some (nI 0, V_27) else some (nI 1, V_27))) := by
  have ⟨hN, hM, hS, hi, u1, u2⟩ := H
  have hs : tq_sI 27 = -nI 1 := rfl
  unfold q_X8_readLine
  simp only [hM, hS, hi, pk_ckT, pk_bs, pk_letE, pk_bd2E, pk_bd3E, if_true, if_false, eq_self, not_true_eq_false, not_false_eq_true, true_and, and_true, Nat.not_lt_zero, Nat.zero_le, Nat.reduceEqDiff, Nat.reduceLT, Nat.reduceLeDiff, pk_ck, pc_setN H hp, hs, pc_wrd H hp, show (0 < 8 ∧ 8 < 36) from by omega, show (0 < 20 ∧ 20 < 36) from by omega, show (0 < 21 ∧ 21 < 36) from by omega, show (0 < 27 ∧ 27 < 36) from by omega, show (0 < 32 ∧ 32 < 36) from by omega, show (0 < 33 ∧ 33 < 36) from by omega, pk_lit, pk_B0, tq_G, List.getD_cons_succ, List.getD_cons_zero, hw, Nat.reduceEqDiff]
theorem pc_lineN (H : pk_cL N z u Y) (hp : pk_PC z V T L p) (hw : ∀ b, 1 ≤ b → b ≤ 6 → tq_w T L p ≠ tq_wd b) (h30 : tq_w T L p ≠ 30) (h31 : tq_w T L p ≠ 31) (h18 : tq_w T L p ≠ 18) (h25 : tq_w T L p ≠ 25) (h26 : tq_w T L p ≠ 26) (h27 : tq_w T L p ≠ 27) : q_X8_readLine N Y V (z + 54) = bk_bd2 (q_X8_refuse N Y V (z + 54) (nI 1)) (fun r_20 V_21 => bk_ck (r_20 = nI 0 ∨ r_20 = nI 1) (some (r_20, V_21))) := by
  have ⟨hN, hM, hS, hi, u1, u2⟩ := H
  have hs : tq_sI (tq_w T L p) = -nI 1 := by
    have w1 : ¬ tq_w T L p = 20 := hw 1 (by omega) (by omega)
    have w2 : ¬ tq_w T L p = 21 := hw 2 (by omega) (by omega)
    have w3 : ¬ tq_w T L p = 22 := hw 3 (by omega) (by omega)
    have w4 : ¬ tq_w T L p = 4 := hw 4 (by omega) (by omega)
    have w5 : ¬ tq_w T L p = 23 := hw 5 (by omega) (by omega)
    have w6 : ¬ tq_w T L p = 24 := hw 6 (by omega) (by omega)
    unfold tq_sI
    rw [if_neg w1, if_neg w2, if_neg w3, if_neg w4, if_neg w5, if_neg w6]
  unfold q_X8_readLine
  simp only [hM, hS, hi, pk_ckT, pk_bs, pk_letE, pk_bd2E, pk_bd3E, if_true, if_false, eq_self, not_true_eq_false, not_false_eq_true, true_and, and_true, Nat.not_lt_zero, Nat.zero_le, Nat.reduceEqDiff, Nat.reduceLT, Nat.reduceLeDiff, pk_ck, pc_setN H hp, hs, pc_wrd H hp, show (0 < 8 ∧ 8 < 36) from by omega, show (0 < 20 ∧ 20 < 36) from by omega, show (0 < 21 ∧ 21 < 36) from by omega, show (0 < 27 ∧ 27 < 36) from by omega, show (0 < 32 ∧ 32 < 36) from by omega, show (0 < 33 ∧ 33 < 36) from by omega, pk_lit, pk_B0, tq_G, List.getD_cons_succ, List.getD_cons_zero, h30, h31, h18, h25, h26, h27]
theorem pr_line18 (hN : 1000 ≤ N) (hS : pk_Rf Y r) (h : pk_PR r V T L p) (hw : tq_w T L p = 18) : q_X12_line0 N Y V r = (q_X12_readsHole N Y V r).bind (fun V_131 => q_X12_line0_384 N Y V_131 r) := by
  unfold q_X12_line0
  rw [pk_ck hS.1, pr_known hN hS h.1.2.2.1 h.2.2.1 h.2.1, pk_bs, hw, show tq_wI 18 = nI 18 from rfl, if_pos (show nI 18 = (18 : Int32) from rfl)]
theorem pr_line25 (hN : 1000 ≤ N) (hS : pk_Rf Y r) (h : pk_PR r V T L p) (hw : tq_w T L p = 25) : q_X12_line0 N Y V r = (q_X12_readsCause N Y V r).bind (fun V_63 => q_X12_line0_384 N Y V_63 r) := by
  unfold q_X12_line0
  rw [pk_ck hS.1, pr_known hN hS h.1.2.2.1 h.2.2.1 h.2.1, pk_bs, hw, show tq_wI 25 = nI 25 from rfl, if_neg (show ¬ nI 25 = (18 : Int32) by decide), if_neg (show ¬ nI 25 = (20 : Int32) by decide), if_neg (show ¬ nI 25 = (21 : Int32) by decide), if_neg (show ¬ nI 25 = (22 : Int32) by decide), if_neg (show ¬ nI 25 = (4 : Int32) by decide), if_neg (show ¬ nI 25 = (23 : Int32) by decide), if_neg (show ¬ nI 25 = (24 : Int32) by decide), if_pos (show nI 25 = (25 : Int32) from rfl)]
theorem pr_line26 (hN : 1000 ≤ N) (hS : pk_Rf Y r) (h : pk_PR r V T L p) (hw : tq_w T L p = 26) : q_X12_line0 N Y V r = if bk_rI V r 41 = nI 6 then (q_X12_wrong N Y V r (nI 2)).bind (fun V_59 => q_X12_line0_234 N Y V_59 r) else q_X12_line0_234 N Y V r := by
  unfold q_X12_line0
  rw [pk_ck hS.1, pr_known hN hS h.1.2.2.1 h.2.2.1 h.2.1, pk_bs, hw, show tq_wI 26 = nI 26 from rfl, if_neg (show ¬ nI 26 = (18 : Int32) by decide), if_neg (show ¬ nI 26 = (20 : Int32) by decide), if_neg (show ¬ nI 26 = (21 : Int32) by decide), if_neg (show ¬ nI 26 = (22 : Int32) by decide), if_neg (show ¬ nI 26 = (4 : Int32) by decide), if_neg (show ¬ nI 26 = (23 : Int32) by decide), if_neg (show ¬ nI 26 = (24 : Int32) by decide), if_neg (show ¬ nI 26 = (25 : Int32) by decide), if_pos (show nI 26 = (26 : Int32) from rfl)]
  rfl
theorem pr_line27 (hN : 1000 ≤ N) (hS : pk_Rf Y r) (h : pk_PR r V T L p) (hw : tq_w T L p = 27) : q_X12_line0 N Y V r = (q_X12_readsRider N Y V r).bind (fun V_56 => q_X12_line0_384 N Y V_56 r) := by
  unfold q_X12_line0
  rw [pk_ck hS.1, pr_known hN hS h.1.2.2.1 h.2.2.1 h.2.1, pk_bs, hw, show tq_wI 27 = nI 27 from rfl, if_neg (show ¬ nI 27 = (18 : Int32) by decide), if_neg (show ¬ nI 27 = (20 : Int32) by decide), if_neg (show ¬ nI 27 = (21 : Int32) by decide), if_neg (show ¬ nI 27 = (22 : Int32) by decide), if_neg (show ¬ nI 27 = (4 : Int32) by decide), if_neg (show ¬ nI 27 = (23 : Int32) by decide), if_neg (show ¬ nI 27 = (24 : Int32) by decide), if_neg (show ¬ nI 27 = (25 : Int32) by decide), if_neg (show ¬ nI 27 = (26 : Int32) by decide), if_pos (show nI 27 = (27 : Int32) from rfl)]
theorem pr_line30 (hN : 1000 ≤ N) (hS : pk_Rf Y r) (h : pk_PR r V T L p) (hw : tq_w T L p = 30) : q_X12_line0 N Y V r = q_X12_line0_322 N Y V r (nI 30) := by
  unfold q_X12_line0
  rw [pk_ck hS.1, pr_known hN hS h.1.2.2.1 h.2.2.1 h.2.1, pk_bs, hw, show tq_wI 30 = nI 30 from rfl, if_neg (show ¬ nI 30 = (18 : Int32) by decide), if_neg (show ¬ nI 30 = (20 : Int32) by decide), if_neg (show ¬ nI 30 = (21 : Int32) by decide), if_neg (show ¬ nI 30 = (22 : Int32) by decide), if_neg (show ¬ nI 30 = (4 : Int32) by decide), if_neg (show ¬ nI 30 = (23 : Int32) by decide), if_neg (show ¬ nI 30 = (24 : Int32) by decide), if_neg (show ¬ nI 30 = (25 : Int32) by decide), if_neg (show ¬ nI 30 = (26 : Int32) by decide), if_neg (show ¬ nI 30 = (27 : Int32) by decide), if_pos (show nI 30 = (30 : Int32) from rfl)]
theorem pr_line31 (hN : 1000 ≤ N) (hS : pk_Rf Y r) (h : pk_PR r V T L p) (hw : tq_w T L p = 31) : q_X12_line0 N Y V r = q_X12_line0_322 N Y V r (nI 31) := by
  unfold q_X12_line0
  rw [pk_ck hS.1, pr_known hN hS h.1.2.2.1 h.2.2.1 h.2.1, pk_bs, hw, show tq_wI 31 = nI 31 from rfl, if_neg (show ¬ nI 31 = (18 : Int32) by decide), if_neg (show ¬ nI 31 = (20 : Int32) by decide), if_neg (show ¬ nI 31 = (21 : Int32) by decide), if_neg (show ¬ nI 31 = (22 : Int32) by decide), if_neg (show ¬ nI 31 = (4 : Int32) by decide), if_neg (show ¬ nI 31 = (23 : Int32) by decide), if_neg (show ¬ nI 31 = (24 : Int32) by decide), if_neg (show ¬ nI 31 = (25 : Int32) by decide), if_neg (show ¬ nI 31 = (26 : Int32) by decide), if_neg (show ¬ nI 31 = (27 : Int32) by decide), if_neg (show ¬ nI 31 = (30 : Int32) by decide), if_pos (show nI 31 = (31 : Int32) from rfl)]
theorem pr_lineN (hN : 1000 ≤ N) (hS : pk_Rf Y r) (h : pk_PR r V T L p) (h18 : tq_w T L p ≠ 18) (h20 : tq_w T L p ≠ 20) (h21 : tq_w T L p ≠ 21) (h22 : tq_w T L p ≠ 22) (h4 : tq_w T L p ≠ 4) (h23 : tq_w T L p ≠ 23) (h24 : tq_w T L p ≠ 24) (h25 : tq_w T L p ≠ 25) (h26 : tq_w T L p ≠ 26) (h27 : tq_w T L p ≠ 27) (h30 : tq_w T L p ≠ 30) (h31 : tq_w T L p ≠ 31) : q_X12_line0 N Y V r = (q_X12_wrong N Y V r (nI 1)).bind (fun V_52 => q_X12_line0_384 N Y V_52 r) := by
  have wb := tq_w_b (T := T) (L := L) (p := p)
  unfold q_X12_line0
  rw [pk_ck hS.1, pr_known hN hS h.1.2.2.1 h.2.2.1 h.2.1, pk_bs, if_neg (show ¬ tq_wI (tq_w T L p) = (18 : Int32) from (show ¬ tq_wI (tq_w T L p) = nI 18 by rw [tq_wI_eq (by omega) (by omega)]; exact h18)), if_neg (show ¬ tq_wI (tq_w T L p) = (20 : Int32) from (show ¬ tq_wI (tq_w T L p) = nI 20 by rw [tq_wI_eq (by omega) (by omega)]; exact h20)), if_neg (show ¬ tq_wI (tq_w T L p) = (21 : Int32) from (show ¬ tq_wI (tq_w T L p) = nI 21 by rw [tq_wI_eq (by omega) (by omega)]; exact h21)), if_neg (show ¬ tq_wI (tq_w T L p) = (22 : Int32) from (show ¬ tq_wI (tq_w T L p) = nI 22 by rw [tq_wI_eq (by omega) (by omega)]; exact h22)), if_neg (show ¬ tq_wI (tq_w T L p) = (4 : Int32) from (show ¬ tq_wI (tq_w T L p) = nI 4 by rw [tq_wI_eq (by omega) (by omega)]; exact h4)), if_neg (show ¬ tq_wI (tq_w T L p) = (23 : Int32) from (show ¬ tq_wI (tq_w T L p) = nI 23 by rw [tq_wI_eq (by omega) (by omega)]; exact h23)), if_neg (show ¬ tq_wI (tq_w T L p) = (24 : Int32) from (show ¬ tq_wI (tq_w T L p) = nI 24 by rw [tq_wI_eq (by omega) (by omega)]; exact h24)), if_neg (show ¬ tq_wI (tq_w T L p) = (25 : Int32) from (show ¬ tq_wI (tq_w T L p) = nI 25 by rw [tq_wI_eq (by omega) (by omega)]; exact h25)), if_neg (show ¬ tq_wI (tq_w T L p) = (26 : Int32) from (show ¬ tq_wI (tq_w T L p) = nI 26 by rw [tq_wI_eq (by omega) (by omega)]; exact h26)), if_neg (show ¬ tq_wI (tq_w T L p) = (27 : Int32) from (show ¬ tq_wI (tq_w T L p) = nI 27 by rw [tq_wI_eq (by omega) (by omega)]; exact h27)), if_neg (show ¬ tq_wI (tq_w T L p) = (30 : Int32) from (show ¬ tq_wI (tq_w T L p) = nI 30 by rw [tq_wI_eq (by omega) (by omega)]; exact h30)), if_neg (show ¬ tq_wI (tq_w T L p) = (31 : Int32) from (show ¬ tq_wI (tq_w T L p) = nI 31 by rw [tq_wI_eq (by omega) (by omega)]; exact h31))]
  rfl
/-- no line begins so -/
theorem ln_none (H : pk_lH N z u Y T L p D P B) (h18 : tq_w T L p ≠ 18) (h20 : tq_w T L p ≠ 20) (h21 : tq_w T L p ≠ 21) (h22 : tq_w T L p ≠ 22) (h4 : tq_w T L p ≠ 4) (h23 : tq_w T L p ≠ 23) (h24 : tq_w T L p ≠ 24) (h25 : tq_w T L p ≠ 25) (h26 : tq_w T L p ≠ 26) (h27 : tq_w T L p ≠ 27) (h30 : tq_w T L p ≠ 30) (h31 : tq_w T L p ≠ 31) : pk_ln N z u r Y T L p D P B := by
  obtain ⟨hN, hC, hL, hp, hD, hP0, hP1, hk⟩ := H
  refine ⟨tq_oF 1 (tq_s T L p), pk_oB.F (by omega), fun V h => ?_, fun Y2 V hS h => ?_⟩
  · rw [tq_tlF (by omega), pc_lineN hC h.1 (fun b b1 b2 => by
      rcases (show b = 1 ∨ b = 2 ∨ b = 3 ∨ b = 4 ∨ b = 5 ∨ b = 6 by omega) with q | q | q | q | q | q <;> subst q <;> assumption) h30 h31 h18 h25 h26 h27]
    obtain ⟨V', e1, e2, e3⟩ := pc_refuse8 (N := N) (k := 1) hC.2.1 h.1
    exact pk_oC.F (by omega) (by rw [e1, pk_bd2E, pk_ck (Or.inl rfl)]) e2.fW e3
  · rw [pr_lineN (by omega) hS h.1 h18 h20 h21 h22 h4 h23 h24 h25 h26 h27 h30 h31]
    obtain ⟨V1, w1, w2, w3, -, -⟩ := pr_wrongY (N := N) (k := 1) hS h.1 (by omega)
    exact pk_oK.F (by omega) (by rw [w1, pk_bs, pr_384F hS w3]) w2.toW w3
/-! causes -/
def tq_cI (w : Nat) : Int32 := if w = 13 then nI 0 else if w = 14 then nI 1 else if w = 15 then nI 2 else if w = 16 then nI 3 else -nI 1
theorem pc_causeN (H : pk_cL N z u Y) (hp : pk_PC z V T L p) : q_X8_causeNamed N Y V (z + 54) = some (tq_cI (tq_w T L p)) := by
  have hM := H.2.1
  unfold q_X8_causeNamed tq_cI
  simp only [hM, pk_ckT, pk_bs, pk_letE, pk_bd2E, pk_bd3E, if_true, if_false, eq_self, not_true_eq_false, not_false_eq_true, true_and, and_true, Nat.not_lt_zero, Nat.zero_le, Nat.reduceEqDiff, Nat.reduceLT, Nat.reduceLeDiff, pk_ck, pc_wrd H hp, show (0 < 28 ∧ 28 < 36) from by omega, show (0 < 29 ∧ 29 < 36) from by omega, show (0 < 30 ∧ 30 < 36) from by omega, show (0 < 31 ∧ 31 < 36) from by omega, pk_lit, pk_B0, tq_G, List.getD_cons_succ, List.getD_cons_zero, ite_not]
  generalize tq_w T L p = k at *
  repeat' split
  all_goals rfl
theorem tq_cI_y : ∀ c, c < 4 → tq_cI (13 + c) = nI c ∧ ¬ tq_cI (13 + c) = -1 := by decide
theorem tq_cI_n (h : ¬ (13 ≤ w ∧ w ≤ 16)) : tq_cI w = -nI 1 := by
  unfold tq_cI
  rw [if_neg (by omega), if_neg (by omega), if_neg (by omega), if_neg (by omega)]
theorem tq_c13 : ∀ w, w < 36 → (¬ (13 ≤ w ∧ w ≤ 16) → (tq_wI w - 13 < 0 ∨ (¬ tq_wI w - 13 < 0 ∧ 3 < tq_wI w - 13))) := by decide
theorem tq_c13y : ∀ c, c < 4 → tq_wI (13 + c) - 13 = nI c ∧ ¬ nI c < 0 ∧ ¬ 3 < nI c := by decide
theorem pr_causeN (hN : 1000 ≤ N) (hS : pk_Rf Y r) (h : pk_PR r V T L p) (hw : ¬ (13 ≤ tq_w T L (tq_e T L p) ∧ tq_w T L (tq_e T L p) ≤ 16)) : ∃ V1, pk_frW r V V1 ∧ pk_FR r V1 1 (tq_s T L (tq_e T L p)) ∧ q_X12_readsCause N Y V r = some V1 := by
  have wb := tq_w_b (T := T) (L := L) (p := tq_e T L p)
  obtain ⟨V1, g1, g2, g3⟩ := pr_goesP (N := N) hN hS h
  obtain ⟨V2, n1, n2, n3, -, -⟩ := pr_needN (N := N) hS g3
  refine ⟨V2, g2.toW.tr n2.toW, n3, ?_⟩
  have e25 : ∀ x, q_X12_readsCause_25 N Y V1 r x = some V2 := by
    intro x
    unfold q_X12_readsCause_25 q_X12_readsCause_26
    rw [if_pos (show (0 : Int32) = 0 from rfl)]
    unfold q_X12_readsCause_48
    rw [pk_ck hS.1, show q_X12_need N Y V1 r 0 = some V2 from n1, pk_bs, pr_numF hS n3, pk_bd2E, pr_goodN hS n3, pk_bs, if_pos (show nI 0 = (0 : Int32) from rfl)]
  unfold q_X12_readsCause
  rw [pk_ck hS.1, g1, pk_bs, pr_known hN hS h.1.2.2.1 g3.2.2.1 g3.2.1, pk_bs]
  rcases tq_c13 (tq_w T L (tq_e T L p)) (by omega) hw with q | ⟨q1, q2⟩
  · rw [if_pos q, e25]
  · rw [if_neg q1, if_pos q2, e25]
theorem pr_causeL (hN : 1000 ≤ N) (hS : pk_Rf Y r) (h : pk_LR r V T L p D P B) (hk : tq_k T L p ≠ 0) (hc : c < 4) (hw : tq_w T L (tq_e T L p) = 13 + c) : (B (10 + c) = true → ∃ V1, pk_frW r V V1 ∧ pk_FR r V1 5 (tq_s T L (tq_e T L p)) ∧ q_X12_readsCause N Y V r = some V1) ∧ (B (10 + c) = false → (tq_no T L (tq_e T L (tq_e T L p)) 0 99 ≠ 0 → ∃ V1, pk_frW r V V1 ∧ pk_FR r V1 (tq_no T L (tq_e T L (tq_e T L p)) 0 99) (tq_s T L (tq_e T L (tq_e T L p))) ∧ q_X12_readsCause N Y V r = some V1) ∧ (tq_no T L (tq_e T L (tq_e T L p)) 0 99 = 0 → ∃ V1, pk_frW r V V1 ∧ q_X12_readsCause N Y V r = some V1 ∧ pk_LR r V1 T L (tq_e T L (tq_e T L (tq_e T L p))) (tq_D D 1 c (tq_v T L (tq_e T L (tq_e T L p)))) P (tq_B B (10 + c)))) := by
  have hL := h.1.1.2.2.1
  have e1 := tq_e_gt (T := T) hL h.1.2.2.1 hk
  obtain ⟨V1, g1, g2, g3⟩ := pr_goesP (N := N) hN hS h.1
  have h1 := h.frT g2 g3 (by omega)
  have wk := tq_w_k (T := T) (L := L) (p := tq_e T L p) (by omega)
  have e2 := tq_e_gt (T := T) hL h1.1.2.2.1 (by omega)
  obtain ⟨a1, a2, a3, s, s3, b1, b2, b3, b4, b5, b6⟩ := h1
  obtain ⟨y1, y2, y3⟩ := tq_c13y c hc
  have eb := pk_bitE (s := s3) (h := c) (by omega) (by omega)
  have e0 : q_X12_readsCause N Y V r = if sp_bit s3 c then (q_X12_wrong N Y V1 r (nI 5)).bind (fun V_20 => q_X12_readsCause_48 N Y V_20 r (nI c) (nI 1)) else q_X12_readsCause_48 N Y V1 r (nI c) (nI 1) := by
    unfold q_X12_readsCause
    rw [pk_ck hS.1, g1, pk_bs, pr_known hN hS hL g3.2.2.1 g3.2.1, pk_bs, hw, y1, if_neg y2, if_neg y3]
    unfold q_X12_readsCause_26
    rw [if_neg (show ¬ (1 : Int32) = 0 by decide)]
    simp only [hS, pk_ckT, pk_bs, pk_letE, pk_bd2E, pk_bd3E, if_true, if_false, eq_self, not_true_eq_false, not_false_eq_true, true_and, and_true, Nat.not_lt_zero, Nat.zero_le, Nat.reduceEqDiff, Nat.reduceLT, Nat.reduceLeDiff, pk_ck, pk_lit, b3, eb]
  rw [e0]
  constructor
  · intro hB
    obtain ⟨V2, w1, w2, w3, -, -⟩ := pr_wrongY (N := N) (k := 5) hS a1 (by omega)
    refine ⟨V2, g2.toW.tr w2.toW, w3, ?_⟩
    rw [if_pos ((b6 c hc).mpr hB), w1, pk_bs]
    unfold q_X12_readsCause_48
    rw [pk_ck hS.1, pr_needF hS w3, pk_bs, pr_numF hS w3, pk_bd2E, pr_goodN hS w3, pk_bs, if_pos (show nI 0 = (0 : Int32) from rfl)]
  · intro hB
    rw [if_neg (fun g => by rw [(b6 c hc).mp g] at hB; exact Bool.noConfusion hB)]
    obtain ⟨V2, n1, n2, n3⟩ := pr_needY (N := N) hN hS a1
    obtain ⟨m1, m2⟩ := pr_num (N := N) (lo := 0) (hi := 99) hN hS n3 (by omega) (by omega)
    unfold q_X12_readsCause_48
    rw [pk_ck hS.1, n1, pk_bs]
    constructor
    · intro q
      obtain ⟨V3, d1, d2, d3⟩ := m2 q
      refine ⟨V3, (g2.toW.tr n2.toW).tr d2.toW, d3, ?_⟩
      rw [show q_X12_number N Y V2 r 0 99 = _ from d1, pk_bd2E, pr_goodN hS d3, pk_bs, if_pos (show nI 0 = (0 : Int32) from rfl)]
    · intro q
      obtain ⟨V3, d1, d2, d3⟩ := m1 q
      have e3 := tq_e_gt (T := T) hL n3.2.2.1 (tq_no0 q).1
      have h2 : pk_LR r V1 T L (tq_e T L p) D P B := ⟨a1, a2, a3, s, s3, b1, b2, b3, b4, b5, b6⟩
      have h3 := (h2.frT n2 n3 (by omega)).frT d2 d3 (by omega)
      obtain ⟨c1, c2, ⟨K, c3, c4⟩, c5⟩ := h3
      have f3 : bk_rI V3 r 45 = nI s3 := ((d2.2.1 45 (by omega)).trans (n2.2.1 45 (by omega))).trans b3
      have l3 : bk_rL V3 r 49 = lN s := ((d2.2.2.2 49 (by omega)).trans (n2.2.2.2 49 (by omega))).trans b1
      refine ⟨bk_wI (bk_wI V3 r 45 (nI (s3 ||| 2 ^ c))) (r + 9) c (nI (tq_v T L (tq_e T L (tq_e T L p)))), ((((g2.toW.tr n2.toW).tr d2.toW).tr (pk_frW.ws (by omega))).tr (pk_frW.wr (by omega))), ?_, c1.off (fun j hj => by rw [pk_rI_ne (by omega), pk_rI_same, if_neg (by omega)]) (by rw [pk_rowI (by omega), pk_rowI (by omega)]) rfl, pk_NT.w2 (c2.of (fun j q1 q2 => by rw [pk_rI_same, if_neg (by omega)]) (fun a q1 q2 => pk_rowI (by omega))), ⟨K, c3.of (fun j q1 q2 q3 => by rw [pk_rI_ne (by omega), pk_rI_same, if_neg (by omega)]) (by rw [pk_rowI (by omega), pk_rowI (by omega)]), c4⟩, s, s3 ||| 2 ^ c, l3, b2, by rw [pk_rI_ne (by omega), pk_rI_same, if_pos rfl], Nat.or_lt_two_pow b4 (Nat.pow_lt_pow_right (by omega) hc), fun b hb => ?_, fun b hb => ?_⟩
      · rw [show q_X12_number N Y V2 r 0 99 = _ from d1, pk_bd2E, pr_goodY hS d3.2.2.2, pk_bs, if_neg pk_n10, f3, show bk_shl 1 (nI c) = nI (2 ^ c) from pk_shl1 (by omega), pk_or, pk_letE]
        simp (disch := omega) only [hS, pk_ckT, pk_bs, pk_letE, pk_bd2E, pk_bd3E, if_true, if_false, eq_self, not_true_eq_false, not_false_eq_true, true_and, and_true, Nat.not_lt_zero, Nat.zero_le, Nat.reduceEqDiff, Nat.reduceLT, Nat.reduceLeDiff, pk_ck, nI_clamp, pk_inE, pk_lit]
      · have hb' : (1 ≤ b ∧ b ≤ 6) ∨ b = 8 ∨ b = 9 := hb
        rw [tq_B_iff, b5 b hb]
        exact ⟨fun g => Or.inl g, fun g => g.resolve_right (by omega)⟩
      · rw [sp_bit_or, tq_B_iff, b6 b hb]
        exact ⟨fun g => g.elim Or.inl (fun g => Or.inr (by omega)), fun g => g.elim Or.inl (fun g => Or.inr (by omega))⟩
theorem ln_cause (H : pk_lH N z u Y T L p D P B) (hw : tq_w T L p = 25) : pk_ln N z u r Y T L p D P B := by
  have ee := H.ends
  obtain ⟨hN, hC, hL, hp, hD, hP0, hP1, hk⟩ := H
  have ⟨hN1, hM, hSd, hi, u1, u2⟩ := hC
  have e0 : ∀ V V1, q_X9_step N Y V (z + 55) = some V1 → pk_PC z V1 T L (tq_e T L p) → q_X8_readCause N Y V (z + 54) = if tq_cI (tq_w T L (tq_e T L p)) = -nI 1 then bk_bd2 (q_X8_refuse N Y V1 (z + 54) (nI 1)) (fun r_27 V_28 => bk_ck (r_27 = nI 0 ∨ r_27 = nI 1) (some (r_27, V_28))) else bk_bd2 (q_X8_readOnce N Y V1 (z + 54) (nI 10 + tq_cI (tq_w T L (tq_e T L p)))) (fun r_10 V_11 => if r_10 = nI 0 then some (nI 0, V_11) else bk_bd2 (q_X8_readNumber N Y V_11 (z + 54) (nI 0) (nI 99)) (fun r_13 V_14 => if r_13 = nI 0 then some (nI 0, V_14) else bk_ck (bk_in (tq_cI (tq_w T L (tq_e T L p))) 4) (some (nI 1, bk_wI V_14 (u + 2) (tq_cI (tq_w T L (tq_e T L p))).toNatClampNeg (bk_rI V_14 (z + 54) 3))))) := by
    intro V V1 e1 e2
    unfold q_X8_readCause
    simp only [hM, hSd, hi, pk_ckT, pk_bs, pk_letE, pk_bd2E, pk_bd3E, if_true, if_false, eq_self, not_true_eq_false, not_false_eq_true, true_and, and_true, Nat.not_lt_zero, Nat.zero_le, Nat.reduceEqDiff, Nat.reduceLT, Nat.reduceLeDiff, pk_ck, e1, pc_causeN hC e2, pk_lit]
  by_cases q : 13 ≤ tq_w T L (tq_e T L p) ∧ tq_w T L (tq_e T L p) ≤ 16
  · obtain ⟨c, hc, hwc⟩ : ∃ c, c < 4 ∧ tq_w T L (tq_e T L p) = 13 + c := ⟨tq_w T L (tq_e T L p) - 13, by omega, by omega⟩
    obtain ⟨y1, y2⟩ := tq_cI_y c hc
    have wk := tq_w_k (T := T) (L := L) (p := tq_e T L p) (by omega)
    have e2 := tq_e_gt (T := T) hL ee.2 (by omega)
    have e3 := tq_e_le (T := T) hL ee.2
    rw [hwc, y1] at e0
    have e0' := fun V V1 h1 h2 => (e0 V V1 h1 h2).trans (if_neg (fun g => y2 (by rw [y1]; exact g)))
    by_cases qB : B (10 + c) = true
    · refine ⟨tq_oF 5 (tq_s T L (tq_e T L p)), pk_oB.F (by omega), fun V h => ?_, fun Y2 V hS h => ?_⟩
      · rw [pc_line25 hC h.1 hw]
        refine pc_sgn hC ?_
        obtain ⟨V1, g1, g2, g3⟩ := pc_goes (N := N) hN1 hM h.1
        obtain ⟨V2, c1, c2, c3⟩ := (pc_once (N := N) (b := 10 + c) hC (h.fN g2.fN u2 g3) (by omega)).1 qB
        exact pk_oC.F (by omega) (by rw [e0' V V1 g1 g3, nI_add, c1, pk_bd2E, if_pos rfl]) (g2.fN.fW.tr c2) c3
      · rw [pr_line25 (by omega) hS h.1 hw]
        obtain ⟨V1, c1, c2, c3⟩ := (pr_causeL (N := N) (by omega) hS h hk hc hwc).1 qB
        exact pk_oK.F (by omega) (by rw [c3, pk_bs, pr_384F hS c2]) c1 c2
    have qB' : B (10 + c) = false := by
      cases g : B (10 + c) with
      | true => exact absurd g qB
      | false => rfl
    by_cases q2 : tq_no T L (tq_e T L (tq_e T L p)) 0 99 = 0
    · obtain ⟨n0, n1, n2⟩ := tq_no0 q2
      have e4 := tq_e_gt (T := T) hL e3 n0
      refine ⟨(0, tq_e T L (tq_e T L (tq_e T L p)), tq_D D 1 c (tq_v T L (tq_e T L (tq_e T L p))), P, tq_B B (10 + c)), fun _ => ⟨by show p < tq_e T L (tq_e T L (tq_e T L p)); omega, tq_e_le hL e3, hD.w2 n2, tq_B_8 (b := 10 + c) (by omega) hP0, tq_B_9 (b := 10 + c) (by omega) hP1⟩, fun V h => ?_, fun Y2 V hS h => ?_⟩
      · rw [pc_line25 hC h.1 hw]
        refine pc_sgn hC ?_
        obtain ⟨V1, g1, g2, g3⟩ := pc_goes (N := N) hN1 hM h.1
        obtain ⟨V2, c1, c2, c3⟩ := (pc_once (N := N) (b := 10 + c) hC (h.fN g2.fN u2 g3) (by omega)).2 qB'
        obtain ⟨V3, b1, b2, b3, b4⟩ := (pc_num (N := N) (lo := 0) (hi := 99) hN1 hM c3.1 (by omega) (by omega)).1 q2
        have h3 := c3.fN b2 u2 b4
        refine Or.inl ⟨rfl, bk_wI V3 (u + 2) c (nI (tq_v T L (tq_e T L (tq_e T L p)))), ?_, ((g2.fN.fW.tr c2).tr b2.fW).tr (pk_fW.wI (by omega)), ⟨⟨fun j hj => by rw [pk_rI_ne (by omega)]; exact h3.1.1.1 j hj, h3.1.1.2⟩, ⟨(pk_rI_ne (by omega)).trans h3.1.2.1.1, (pk_rI_ne (by omega)).trans h3.1.2.1.2.1, (pk_rI_ne (by omega)).trans h3.1.2.1.2.2.1, (pk_rI_ne (by omega)).trans h3.1.2.1.2.2.2⟩, h3.1.2.2.1, (pk_rI_ne (by omega)).trans h3.1.2.2.2⟩, h3.2.1.w2, ?_⟩
        · rw [e0' V V1 g1 g3, nI_add, c1, pk_bd2E, if_neg (show ¬ nI 1 = nI 0 by decide), b1, pk_bd2E, if_neg (show ¬ nI 1 = nI 0 by decide), b3, pk_ck (by rw [pk_inE (by omega)]; exact hc), nI_clamp (by omega)]
        · obtain ⟨s, d1, d2⟩ := h3.2.2
          exact ⟨s, (pk_rI_ne (by omega)).trans d1, d2⟩
      · rw [pr_line25 (by omega) hS h.1 hw]
        obtain ⟨V1, c1, c2, c3⟩ := ((pr_causeL (N := N) (by omega) hS h hk hc hwc).2 qB').2 q2
        exact Or.inl ⟨rfl, V1, by rw [c2, pk_bs], c1, c3⟩
    · refine ⟨tq_oF (tq_no T L (tq_e T L (tq_e T L p)) 0 99) (tq_s T L (tq_e T L (tq_e T L p))), pk_oB.F q2, fun V h => ?_, fun Y2 V hS h => ?_⟩
      · rw [pc_line25 hC h.1 hw]
        refine pc_sgn hC ?_
        obtain ⟨V1, g1, g2, g3⟩ := pc_goes (N := N) hN1 hM h.1
        obtain ⟨V2, c1, c2, c3⟩ := (pc_once (N := N) (b := 10 + c) hC (h.fN g2.fN u2 g3) (by omega)).2 qB'
        obtain ⟨V3, b1, b2, b3⟩ := (pc_num (N := N) (lo := 0) (hi := 99) hN1 hM c3.1 (by omega) (by omega)).2 q2
        exact pk_oC.F q2 (by rw [e0' V V1 g1 g3, nI_add, c1, pk_bd2E, if_neg (show ¬ nI 1 = nI 0 by decide), b1, pk_bd2E, if_pos rfl]) ((g2.fN.fW.tr c2).tr b2.fW) b3
      · rw [pr_line25 (by omega) hS h.1 hw]
        obtain ⟨V1, c1, c2, c3⟩ := ((pr_causeL (N := N) (by omega) hS h hk hc hwc).2 qB').1 q2
        exact pk_oK.F q2 (by rw [c3, pk_bs, pr_384F hS c2]) c1 c2
  · refine ⟨tq_oF 1 (tq_s T L (tq_e T L p)), pk_oB.F (by omega), fun V h => ?_, fun Y2 V hS h => ?_⟩
    · rw [pc_line25 hC h.1 hw]
      refine pc_sgn hC ?_
      obtain ⟨V1, g1, g2, g3⟩ := pc_goes (N := N) hN1 hM h.1
      obtain ⟨V2, c1, c2, c3⟩ := pc_refuse8 (N := N) (k := 1) hM g3
      exact pk_oC.F (by omega) (by rw [e0 V V1 g1 g3, if_pos (tq_cI_n q), c1, pk_bd2E, pk_ck (Or.inl rfl)]) (g2.fN.fW.tr c2.fW) c3
    · rw [pr_line25 (by omega) hS h.1 hw]
      obtain ⟨V1, c1, c2, c3⟩ := pr_causeN (N := N) (by omega) hS h.1 q
      exact pk_oK.F (by omega) (by rw [c3, pk_bs, pr_384F hS c2]) c1 c2
end
