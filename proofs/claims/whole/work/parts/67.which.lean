/-! flatIf, which -/
section
variable {N z t u s tl r a b c d k n j h m l p q0 : Nat} {Y Y' : bk_Lay} {V V' : bk_Val} {x y x1 x2 x3 x4 x5 : Int32} {D : Nat → Nat → Nat} {P : Nat → List Nat} {T : Nat → Nat} {st : pk_St} {hs : List pk_St} {img : Option (pk_St × List pk_St)} {pl : Option (Nat → Nat)} {fp r0 r1 : Int32} {A : pk_A}
theorem pk_ix2 (x : Int32) (hn : n < 2 ^ 31) : (x < 0 ∨ nI n ≤ x) ∨ ∃ j : Nat, j < n ∧ x = nI j := by
  rcases pk_ix x hn with h | h | h
  · exact Or.inl (Or.inl h)
  · exact Or.inl (Or.inr h)
  · exact Or.inr h
theorem pk_pow6 (hn : n ≤ 6) : 0 < 2 ^ n ∧ 2 ^ n ≤ 64 := by
  have : 2 ^ n ≤ 2 ^ 6 := Nat.pow_le_pow_right (by decide) hn
  exact ⟨Nat.two_pow_pos n, by omega⟩
theorem pk_mask (hn : n ≤ 6) : (x &&& (nI (2 ^ n - 1) ^^^ -nI 1) = nI 0) ↔ ∃ j, j < 2 ^ n ∧ x = nI j := by
  have hp := pk_pow6 hn
  constructor
  · intro q
    refine ⟨x.toBitVec.toNat, ?_, ?_⟩
    · apply Nat.lt_pow_two_of_testBit
      intro i hi
      have q2 : (x &&& (nI (2 ^ n - 1) ^^^ -nI 1)).toBitVec = 0#32 := congrArg Int32.toBitVec q
      have q3 := congrArg (fun b : BitVec 32 => b.getLsbD i) q2
      by_cases c : i < 32
      · have e1 : (x &&& (nI (2 ^ n - 1) ^^^ -nI 1)).toBitVec = x.toBitVec &&& (BitVec.ofNat 32 (2 ^ n - 1) ^^^ BitVec.allOnes 32) := rfl
        rw [e1] at q3
        simp only [BitVec.getLsbD_and, BitVec.getLsbD_xor, BitVec.getLsbD_allOnes, BitVec.getLsbD_ofNat, Nat.testBit_two_pow_sub_one, c, BitVec.getLsbD_zero] at q3
        have : ¬ i < n := by omega
        simp [this] at q3
        exact q3
      · exact BitVec.getLsbD_of_ge _ _ (by omega)
    · apply Int32.toBitVec_inj.1
      show _ = BitVec.ofNat 32 _
      rw [BitVec.ofNat_toNat, BitVec.setWidth_eq]
  · rintro ⟨j, hj, rfl⟩
    apply Int32.toBitVec_inj.1
    show BitVec.ofNat 32 j &&& (BitVec.ofNat 32 (2 ^ n - 1) ^^^ BitVec.allOnes 32) = 0#32
    apply BitVec.eq_of_getLsbD_eq
    intro i hi
    simp only [BitVec.getLsbD_and, BitVec.getLsbD_xor, BitVec.getLsbD_allOnes, BitVec.getLsbD_ofNat, Nat.testBit_two_pow_sub_one, hi, BitVec.getLsbD_zero, decide_true, Bool.true_and]
    by_cases c : i < n
    · simp [c]
    · rw [Nat.testBit_lt_two_pow (Nat.lt_of_lt_of_le hj (Nat.pow_le_pow_right (by decide) (by omega)))]
      simp
theorem pc_all (hS : pk_Sd Y t) (hT : pk_CT V t D P) (hB : pk_DB D P) : q_X1_all N Y V (t + 3) = some (nI (2 ^ D 2 0 - 1)) := by
  have b1 : D 2 0 ≤ 6 := hB.2.2.2.2.2.2.2.2.2.1
  have hp := pk_pow6 b1
  simp (disch := omega) only [q_X1_all, hS, hT.2.2.1, pk_ckT, pk_bs, pk_letE, pk_bd2E, pk_bd3E, if_true, if_false, eq_self, not_true_eq_false, not_false_eq_true, true_and, and_true, Nat.not_lt_zero, Nat.zero_le, Nat.reduceEqDiff, Nat.reduceLT, Nat.reduceLeDiff, pk_ck, pk_lit, pk_shl1, pk_sub]
theorem st_39 (hN : 20000 ≤ N) (hI : pk_IA z Y V) : bk_st39 N z (z + 58) (z + 86) Y V x1 x2 x3 x4 x5 (pk_IA z) := by
  obtain ⟨t, u, s, D, P, T, tl, st, hs, img, pl, fp, r0, r1, hJ, hR, hB, hC, hRA, hBA⟩ := hI.e
  obtain ⟨hM, hS, hz, hT, hs5, -⟩ := hJ.o
  have hl := sp_l_lt (x := x2)
  have b1 : D 2 0 ≤ 6 := hB.1.2.2.2.2.2.2.2.2.2.1
  have hp := pk_pow6 b1
  unfold bk_st39
  rw [pk_bl]
  have hmask := pk_mask (x := x1) b1
  by_cases c : ∃ j, j < 2 ^ D 2 0 ∧ x1 = nI j
  · have hm := hmask.mpr c
    obtain ⟨j, hj, rfl⟩ := c
    obtain ⟨V1, e1, f1⟩ := pc_flat (a := j) hN hJ hB (by omega) hl
    refine ⟨.inr (pk_on (sp_flat D P j st.1 st.2.1 (sp_l x2)), V1), ?_, (fun e he => by cases he), pk_stQ hC hRA hBA (pk_CA.fr hJ f1) rfl (fun Y1 V1 h1 h2 => ?_)⟩
    · simp only [q_X11_flatIf, hM, hz, hS, pk_ckT, eq_self, pk_bs, pc_all hS hT hB.1, pk_lit, hm, if_true, q_X11_flatIf_22]
      rw [show nI 1 = pk_B True from rfl, pc_needA, if_pos trivial, pk_bdxR, e1, pk_bd2E]
    · have h3 : pk_JR (z + 58) (bk_wI V1 (z + 58) 0 (nI 0)) D P T tl st hs img pl fp r0 r1 := pk_JR.w0 h2
      obtain ⟨V2, e2, f2⟩ := pr_flat (a := j) hN h1 h3 hB (by omega) hl
      refine ⟨V2, ?_, f2⟩
      have e9 : q_X12_right N Y1 (bk_wI V1 (z + 58) 0 (nI 0)) (z + 58) (nI 1) (nI 1) = some (nI 1, bk_wI V1 (z + 58) 0 (nI 0)) := pr_right (c := True) h1 pk_w0 (Or.inl rfl)
      simp (disch := omega) only [q_X12_flatIf, q_X12_flatIf_25, h1, pk_ckT, eq_self, pk_letE, pk_lit, h3.1.1, pk_shl1, nI_ltI, nI_leI, e9, pk_bd2E, e2]
      rw [if_neg (by omega), if_neg (by omega), if_neg (by decide)]
  · have hm : ¬ (x1 &&& (nI (2 ^ D 2 0 - 1) ^^^ -nI 1) = nI 0) := fun q => c (hmask.mp q)
    refine ⟨.inl 2, ?_, (fun e he => by cases he; rfl), pk_stT hC hRA hBA rfl (k := 1) (by decide) (v := nI 0) (fun Y1 V1 h1 h2 => ⟨_, ?_, pk_frR.rf⟩)⟩
    · simp only [q_X11_flatIf, hM, hz, hS, pk_ckT, eq_self, pk_bs, pc_all hS hT hB.1, pk_lit, if_neg hm, q_X11_flatIf_22]
      rw [show nI 0 = pk_B False from rfl, pc_needA, if_neg (fun q => q), pk_bdxL]
    · have h3 : pk_JR (z + 58) (bk_wI V1 (z + 58) 0 (nI 0)) D P T tl st hs img pl fp r0 r1 := pk_JR.w0 h2
      have e9 : q_X12_right N Y1 (bk_wI V1 (z + 58) 0 (nI 0)) (z + 58) (nI 0) (nI 1) = some (nI 0, bk_wI (bk_wI V1 (z + 58) 0 (nI 0)) (z + 58) 0 (nI 1)) := pr_right (c := False) h1 pk_w0 (Or.inl rfl)
      simp (disch := omega) only [q_X12_flatIf, q_X12_flatIf_24, q_X12_flatIf_25, h1, pk_ckT, eq_self, pk_letE, pk_lit, h3.1.1, pk_shl1, e9, pk_bd2E, if_true]
      by_cases c1 : x1 < nI 0
      · rw [if_pos c1]
      · rw [if_neg c1]
        by_cases c2 : nI (2 ^ D 2 0) ≤ x1
        · rw [if_pos c2]
        · exfalso
          rcases pk_ix x1 (n := 2 ^ D 2 0) (by omega) with q | q | q
          · exact c1 q
          · exact c2 q
          · exact c q
/-! which -/
def sp_cnt (f : Nat → Bool) : Nat → Nat → Nat
  | _, 0 => 0
  | i, n + 1 => (if f i then 1 else 0) + sp_cnt f (i + 1) n
theorem sp_cnt_end {f : Nat → Bool} : ∀ n i, sp_cnt f i (n + 1) = sp_cnt f i n + (if f (i + n) then 1 else 0)
  | 0, i => by simp only [sp_cnt, Nat.add_zero]; omega
  | n + 1, i => by
    rw [sp_cnt, sp_cnt_end n (i + 1), sp_cnt, show i + 1 + n = i + (n + 1) by omega]
    omega
theorem sp_cnt_le {f : Nat → Bool} : ∀ n i, sp_cnt f i n ≤ n
  | 0, _ => Nat.le_refl _
  | n + 1, i => by
    have := sp_cnt_le (f := f) n (i + 1)
    rw [sp_cnt]
    split <;> omega
theorem sp_find_end {f : Nat → Bool} : ∀ n i, sp_find f i (n + 1) = match sp_find f i n with
    | some k => some k
    | none => if f (i + n) then some (i + n) else none
  | 0, i => by simp only [sp_find, Nat.add_zero]
  | n + 1, i => by
    rw [sp_find, sp_find_end n (i + 1), sp_find, show i + 1 + n = i + (n + 1) by omega]
    by_cases c : f i = true
    · rw [if_pos c, if_pos c]
    · rw [if_neg c, if_neg c]
theorem sp_find_lt {f : Nat → Bool} {k : Nat} : ∀ {n i}, sp_find f i n = some k → i ≤ k ∧ k < i + n ∧ f k = true
  | 0, _, h => by cases h
  | n + 1, i, h => by
    rw [sp_find] at h
    by_cases c : f i = true
    · rw [if_pos c] at h; cases h; exact ⟨Nat.le_refl _, by omega, c⟩
    · rw [if_neg c] at h
      have := sp_find_lt h
      exact ⟨by omega, by omega, this.2.2⟩
theorem sp_cnt_hd {f : Nat → Bool} {i n : Nat} (h : 0 < n) : sp_cnt f i n = (if f i then 1 else 0) + sp_cnt f (i + 1) (n - 1) := by
  obtain ⟨m, rfl⟩ : ∃ m, n = m + 1 := ⟨n - 1, by omega⟩
  rfl
theorem sp_find_hd {f : Nat → Bool} {i n : Nat} (h : 0 < n) : sp_find f i n = if f i then some i else sp_find f (i + 1) (n - 1) := by
  obtain ⟨m, rfl⟩ : ∃ m, n = m + 1 := ⟨n - 1, by omega⟩
  rfl
def sp_wf (D : Nat → Nat → Nat) (P : Nat → List Nat) (st : pk_St) (l : Nat) (x : Int32) : Nat → Bool := fun i => decide (nI (sp_gone D P i st.1 st.2.1 l) = x)
def sp_which (D : Nat → Nat → Nat) (P : Nat → List Nat) (st : pk_St) (l : Nat) (x : Int32) (w : Nat) : Int32 := if w = 0 then nI (sp_cnt (sp_wf D P st l x) 0 (2 ^ D 2 0)) else pk_on (sp_find (sp_wf D P st l x) 0 (2 ^ D 2 0))
theorem pc_which (hN : 20000 ≤ N) (hJ : pk_JC z Y V t u s D P T tl st hs img pl fp r0 r1) (hB : pk_JB D P T tl st hs img) (hw : j < 2) (hl : l < 2) : ∃ V2, q_X11_which N Y V z x (nI l) (nI j) = some (.inr (sp_which D P st l x j, V2)) ∧ pk_fr t V V2 := by
  obtain ⟨hM, hS, hz, hT, hs5, -⟩ := hJ.o
  have hn := hJ.ne
  have hrg := hJ.2.2.2.2.2.1.hd.1.1
  have hpr : st.1 ≤ 100000 := hB.2.2.1.1.1
  have b1 : D 2 0 ≤ 6 := hB.1.2.2.2.2.2.2.2.2.2.1
  have hp := pk_pow6 b1
  let f := sp_wf D P st l x
  have L := loop_i (σ := bk_Val) (fun n i W => ∃ V2, q_X11_which_18 N Y n W z x (nI l) (nI j) (nI (sp_cnt f 0 i)) (pk_on (sp_find f 0 i)) (nI i) = some (.inr (sp_which D P st l x j, V2)) ∧ pk_fr t V V2)
    (fun i W => pk_fr t V W) (2 ^ D 2 0) ?_ ?_ N 0 V (by omega) (by omega) pk_fr.rf
  · obtain ⟨V2, e1, f1⟩ := L
    refine ⟨V2, ?_, f1⟩
    simp only [q_X11_which, pc_isWithin, pk_bs, pk_lit, pc_needE]
    rw [if_pos (pk_inn hw (by decide) rfl), pk_bdxR]
    exact e1
  · intro n W hW
    refine ⟨W, ?_, hW⟩
    have T1 := hT.fr hW
    simp (disch := omega) only [q_X11_which_18, hM, hz, hS, pk_ckT, pk_bs, pk_letE, pk_bd2E, pk_bd3E, if_true, if_false, eq_self, not_true_eq_false, not_false_eq_true, true_and, and_true, Nat.not_lt_zero, Nat.zero_le, Nat.reduceEqDiff, Nat.reduceLT, Nat.reduceLeDiff, pk_ck, pc_all hS T1 hB.1, pk_lit, nI_ltI, nI_eq]
    rw [if_pos (by omega)]
    unfold sp_which
    by_cases c : j = 0
    · rw [if_pos c, if_pos c]
    · rw [if_neg c, if_neg c]
  · intro n i W hi hW ih
    have T1 := hT.fr hW
    obtain ⟨V2, e1, f1⟩ := pc_goneBy (N := N) (s := i) (p := st.1) (m := st.2.1) (l := l) (by omega) hS T1 hB.1 (by omega) hpr hl
    have rs : ∀ k, bk_rI W s k = bk_rI V s k := fun k => congrFun (hW.2 s (by omega) (by omega) (by omega)) k
    have ih2 := ih V2 (hW.tr f1)
    rw [sp_cnt_end, sp_find_end, Nat.zero_add] at ih2
    rw [q_X11_which_18]
    simp (disch := omega) only [hM, hz, hS, hs5, pk_ckT, pk_bs, pk_letE, pk_bd2E, pk_bd3E, if_true, if_false, eq_self, not_true_eq_false, not_false_eq_true, true_and, and_true, Nat.not_lt_zero, Nat.zero_le, Nat.reduceEqDiff, Nat.reduceLT, Nat.reduceLeDiff, pk_ck, pc_all hS T1 hB.1, pk_lit, nI_ltI, rs, e1, nI_add, q_X11_which_77, q_X11_which_79]
    rw [if_neg (by omega)]
    by_cases c : nI (sp_gone D P i st.1 st.2.1 l) = x
    · rw [if_pos (show f i = true from decide_eq_true c)] at ih2
      rw [if_pos c]
      cases hfi : sp_find f 0 i with
      | none =>
        rw [hfi] at ih2
        simp only [if_pos (show f i = true from decide_eq_true c)] at ih2
        rw [if_pos (show pk_on none = -nI 1 from rfl)]
        exact ih2
      | some k =>
        rw [hfi] at ih2
        have := sp_find_lt hfi
        rw [if_neg (show ¬ pk_on (some k) = -nI 1 from fun q => by rw [show pk_on (some k) = nI k from rfl, pk_eqm1 (by omega)] at q; exact q)]
        exact ih2
    · rw [if_neg c]
      have hf : ¬ f i = true := fun q => c (of_decide_eq_true q)
      rw [if_neg hf, Nat.add_zero] at ih2
      cases hfi : sp_find f 0 i with
      | none =>
        rw [hfi] at ih2
        simp only [if_neg hf] at ih2
        exact ih2
      | some k =>
        rw [hfi] at ih2
        exact ih2
theorem pr_which (hN : 20000 ≤ N) (hS : pk_Rf Y r) (hR : pk_JR r V D P T tl st hs img pl fp r0 r1) (hB : pk_JB D P T tl st hs img) (hw : j < 2) (hl : l < 2) : ∃ V2, q_X12_which N Y V r x (nI l) (nI j) = some (sp_which D P st l x j, V2) ∧ pk_frR r (bk_wI V r 0 (nI 0)) V2 := by
  have hpr : st.1 ≤ 100000 := hB.2.2.1.1.1
  have b1 : D 2 0 ≤ 6 := hB.1.2.2.2.2.2.2.2.2.2.1
  have hp := pk_pow6 b1
  let f := sp_wf D P st l x
  have h3 : pk_JR r (bk_wI V r 0 (nI 0)) D P T tl st hs img pl fp r0 r1 := hR.w0
  have L : ∀ (i n : Nat) (W : bk_Val), i < 2 ^ D 2 0 → i + 1 < n → pk_frR r (bk_wI V r 0 (nI 0)) W → ∃ V2, q_X12_which_32 N Y n W r x (nI l) (nI j) (nI (sp_cnt f (i + 1) (2 ^ D 2 0 - (i + 1)))) (pk_on (sp_find f (i + 1) (2 ^ D 2 0 - (i + 1)))) (nI i) = some (sp_which D P st l x j, V2) ∧ pk_frR r (bk_wI V r 0 (nI 0)) V2 := by
    intro i
    induction i with
    | zero =>
      intro n W hi hn hW
      obtain ⟨n, rfl⟩ : ∃ n', n = n' + 2 := ⟨n - 2, by omega⟩
      have T1 := h3.1.fr hW
      obtain ⟨V2, e1, f1⟩ := pr_goneBy (N := N) (s := 0) (p := st.1) (m := st.2.1) (l := l) (by omega) hS T1 hB.1 (by omega) hpr hl
      have rs58 : bk_rI W r 58 = nI st.1 := (hW.2.1 58 (by omega) (by omega) (by omega) (by omega)).trans h3.2.2.1.1
      have rs59 : bk_rI W r 59 = nI st.2.1 := (hW.2.1 59 (by omega) (by omega) (by omega) (by omega)).trans h3.2.2.1.2.1
      refine ⟨V2, ?_, hW.tr f1⟩
      rw [q_X12_which_32]
      simp (disch := omega) only [hS, pk_ckT, pk_bs, pk_letE, pk_bd2E, pk_bd3E, if_true, if_false, eq_self, not_true_eq_false, not_false_eq_true, true_and, and_true, Nat.not_lt_zero, Nat.zero_le, Nat.reduceEqDiff, Nat.reduceLT, Nat.reduceLeDiff, pk_ck, pk_lit, nI_ltI, rs58, rs59, e1, nI_add, q_X12_which_66]
      have m1 : nI 0 + -nI 1 < (0 : Int32) := by decide
      have e0 : 2 ^ D 2 0 = (2 ^ D 2 0 - 1) + 1 := by omega
      unfold sp_which
      rw [show sp_cnt (sp_wf D P st l x) 0 (2 ^ D 2 0) = (if f 0 then 1 else 0) + sp_cnt f 1 (2 ^ D 2 0 - 1) from sp_cnt_hd (by omega), show sp_find (sp_wf D P st l x) 0 (2 ^ D 2 0) = if f 0 then some 0 else sp_find f 1 (2 ^ D 2 0 - 1) from sp_find_hd (by omega)]
      by_cases c : nI (sp_gone D P 0 st.1 st.2.1 l) = x
      · rw [if_pos c, q_X12_which_32, if_pos m1, if_pos (show f 0 = true from decide_eq_true c), if_pos (show f 0 = true from decide_eq_true c)]
        simp (disch := omega) only [pk_lit, nI_eq]
        by_cases c2 : j = 0
        · rw [if_pos c2, if_pos c2, Nat.add_comm]
        · rw [if_neg c2, if_neg c2]; rfl
      · have hf : ¬ f 0 = true := fun q => c (of_decide_eq_true q)
        rw [if_neg c, q_X12_which_32, if_pos m1, if_neg hf, if_neg hf]
        simp (disch := omega) only [pk_lit, nI_eq]
        by_cases c2 : j = 0
        · rw [if_pos c2, if_pos c2]; simp only [Nat.zero_add]
        · rw [if_neg c2, if_neg c2]
    | succ i ih =>
      intro n W hi hn hW
      obtain ⟨n, rfl⟩ : ∃ n', n = n' + 1 := ⟨n - 1, by omega⟩
      have T1 := h3.1.fr hW
      obtain ⟨V2, e1, f1⟩ := pr_goneBy (N := N) (s := i + 1) (p := st.1) (m := st.2.1) (l := l) (by omega) hS T1 hB.1 (by omega) hpr hl
      have rs58 : bk_rI W r 58 = nI st.1 := (hW.2.1 58 (by omega) (by omega) (by omega) (by omega)).trans h3.2.2.1.1
      have rs59 : bk_rI W r 59 = nI st.2.1 := (hW.2.1 59 (by omega) (by omega) (by omega) (by omega)).trans h3.2.2.1.2.1
      have ih2 := ih n V2 (by omega) (by omega) (hW.tr f1)
      rw [show 2 ^ D 2 0 - (i + 1) = (2 ^ D 2 0 - (i + 1 + 1)) + 1 by omega, sp_cnt, sp_find] at ih2
      rw [q_X12_which_32]
      simp (disch := omega) only [hS, pk_ckT, pk_bs, pk_letE, pk_bd2E, pk_bd3E, if_true, if_false, eq_self, not_true_eq_false, not_false_eq_true, true_and, and_true, Nat.not_lt_zero, Nat.zero_le, Nat.reduceEqDiff, Nat.reduceLT, Nat.reduceLeDiff, pk_ck, pk_lit, nI_ltI, rs58, rs59, e1, nI_add, q_X12_which_66, pk_addm1, Nat.add_sub_cancel]
      by_cases c : nI (sp_gone D P (i + 1) st.1 st.2.1 l) = x
      · rw [if_pos c]
        rw [if_pos (show f (i + 1) = true from decide_eq_true c), if_pos (show f (i + 1) = true from decide_eq_true c), Nat.add_comm] at ih2
        exact ih2
      · have hf : ¬ f (i + 1) = true := fun q => c (of_decide_eq_true q)
        rw [if_neg c]
        rw [if_neg hf, if_neg hf, Nat.zero_add] at ih2
        exact ih2
  obtain ⟨V2, e1, f1⟩ := L (2 ^ D 2 0 - 1) N _ (by omega) (by omega) pk_frR.rf
  refine ⟨V2, ?_, f1⟩
  rw [show 2 ^ D 2 0 - (2 ^ D 2 0 - 1 + 1) = 0 by omega] at e1
  simp only [q_X12_which, hS, pk_ckT, eq_self, pk_letE, pk_lit]
  rw [pr_isWhat hS pk_w0, pk_bd2E, pk_Bt (pk_inn hw (by decide) rfl), if_neg (by decide), if_pos (pk_inn (n := 2) hw (by decide) rfl), h3.1.1.2.2.2.2.2.2.2.2.1, pk_shl1 (by omega), pk_sub (by omega)]
  exact e1
theorem st_40 (hN : 20000 ≤ N) (hI : pk_IA z Y V) : bk_st40 N z (z + 58) (z + 86) Y V x1 x2 x3 x4 x5 (pk_IA z) := by
  obtain ⟨t, u, s, D, P, T, tl, st, hs, img, pl, fp, r0, r1, hJ, hR, hB, hC, hRA, hBA⟩ := hI.e
  have hl := sp_l_lt (x := x2)
  unfold bk_st40
  rw [pk_bl]
  rcases pk_ix2 x3 (n := 2) (by decide) with hx | ⟨j, hj, rfl⟩
  · have q := pk_out (m := 1) hx (by decide) (by decide)
    refine ⟨.inl 1, ?_, (fun e he => by cases he; rfl), pk_stT hC hRA hBA rfl (k := 1) (by decide) (v := nI 0) (fun Y1 V1 h1 h2 => ⟨_, ?_, pk_frR.rf⟩)⟩
    · simp only [q_X11_which, pc_isWithin, pk_bs, pk_lit, pc_needE]
      rw [if_neg q, pk_bdxL]
    · simp only [q_X12_which, h1, pk_ckT, eq_self, pk_letE, pk_lit]
      rw [pr_isWhat h1 pk_w0, pk_bd2E, pk_Bf q, if_pos rfl, if_neg q]
  · obtain ⟨V1, e1, f1⟩ := pc_which (x := x1) hN hJ hB hj hl
    exact ⟨.inr (sp_which D P st (sp_l x2) x1 j, V1), e1, (fun e he => by cases he), pk_stQ hC hRA hBA (pk_CA.fr hJ f1) rfl (fun Y1 V1 h1 h2 => pr_which hN h1 h2 hB hj hl)⟩
end
