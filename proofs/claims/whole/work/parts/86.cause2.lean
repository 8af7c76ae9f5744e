/-! cause -/
section
variable {N z t u s tl r a b c d k n j h m l p q0 md wa s' i f e gg : Nat} {Y Y' : bk_Lay} {V V' V2 W : bk_Val} {x y x1 x2 x3 x4 x5 : Int32} {w1 w2 : Int64} {D : Nat → Nat → Nat} {P : Nat → List Nat} {T T' w R : Nat → Nat} {st st' g : pk_St} {hs hs' : List pk_St} {img img' : Option (pk_St × List pk_St)} {pl : Option (Nat → Nat)} {fp r0 r1 : Int32} {A B : pk_A}
def sp_or (f : Nat → Bool) : Nat → Bool
  | 0 => false
  | n + 1 => sp_or f n || f n
theorem sp_or_t {f : Nat → Bool} : ∀ {n i : Nat}, i < n → f i = true → sp_or f n = true
  | 0, _, h, _ => by cases h
  | n + 1, i, h, hf => by
    show (sp_or f n || f n) = true
    by_cases c : i = n
    · rw [← c, hf, Bool.or_true]
    · rw [sp_or_t (n := n) (by omega) hf, Bool.true_or]
def sp_bf (D : Nat → Nat → Nat) (h : Nat) : Nat → Bool := fun k => decide (k ≠ h ∧ (D 4 k = 1 ∨ D 4 k = 2) ∧ sp_ap D (D 3 k) (D 3 h) ≤ 1)
def sp_bt (D : Nat → Nat → Nat) (h : Nat) : Bool := sp_or (sp_bf D h) (D 2 0)
theorem pc_beside (hN : 1000 ≤ N) (hS : pk_Sd Y t) (hT : pk_CT V t D P) (hB : pk_DB D P) (hh : h < D 2 0) : q_X5_hasFlankBeside N Y V t (nI h) = some (pk_B (sp_bt D h = true)) := by
  have b1 : D 2 0 ≤ 6 := hB.2.2.2.2.2.2.2.2.2.1
  have b0 := hB.1
  have b2 := hB.2.2.2.2.2.2.2.2.2.2.1
  refine loop_i (σ := Unit) (fun fu i _ => q_X5_hasFlankBeside_2 N Y fu V t (nI h) (nI i) = some (pk_B (sp_bt D h = true))) (fun i _ => sp_or (sp_bf D h) i = false) (D 2 0) ?_ ?_ N 0 () (by omega) (by omega) rfl
  · intro fu _ hI
    rw [q_X5_hasFlankBeside_2]
    simp (disch := omega) only [hS, hT.2.2.1, pk_ckT, pk_bs, pk_letE, pk_bd2E, pk_bd3E, if_true, if_false, eq_self, not_true_eq_false, not_false_eq_true, true_and, and_true, Nat.not_lt_zero, Nat.zero_le, Nat.reduceEqDiff, Nat.reduceLT, Nat.reduceLeDiff, pk_ck, nI_leI, Nat.le_refl, pk_lit]
    rw [pk_Bf (show ¬ sp_bt D h = true by unfold sp_bt; rw [hI]; decide)]
  · intro fu i _ hi hI ih
    have g2 := (hT.2.2.2.1 i hi).2.1
    have q4 := (b2 i hi).2.1
    have hl := sp_ap_lt (D := D) (a := D 3 i) (b := D 3 h) (b2 i hi).1 (b2 h hh).1
    have nxt : ¬ sp_bf D h i = true → sp_or (sp_bf D h) (i + 1) = false := fun q => by
      show (sp_or (sp_bf D h) i || sp_bf D h i) = false
      rw [hI, Bool.false_or]
      exact Bool.eq_false_iff.mpr q
    rw [q_X5_hasFlankBeside_2]
    simp (disch := omega) only [hS, hT.2.2.1, pk_ckT, pk_bs, pk_letE, pk_bd2E, pk_bd3E, if_true, if_false, eq_self, not_true_eq_false, not_false_eq_true, true_and, and_true, Nat.not_lt_zero, Nat.zero_le, Nat.reduceEqDiff, Nat.reduceLT, Nat.reduceLeDiff, pk_ck, pk_lit, nI_add, pk_mul, nI_clamp, nI_leI, nI_ltI, nI_eq, pk_div, pk_remE, pk_inE, pk_sub, g2, pc_flank q4, pk_B0, pc_apart hS hT hB hi hh, q_X5_hasFlankBeside_45]
    rw [if_neg (by omega)]
    by_cases c1 : i = h
    · rw [if_pos c1]
      exact ih () (nxt (fun q => (of_decide_eq_true q).1 c1))
    · rw [if_neg c1]
      by_cases c2 : D 4 i = 1 ∨ D 4 i = 2
      · rw [if_neg (fun q => q c2)]
        by_cases c3 : 1 < sp_ap D (D 3 i) (D 3 h)
        · rw [if_pos c3]
          exact ih () (nxt (fun q => by have := (of_decide_eq_true q).2.2; omega))
        · rw [if_neg c3, pk_Bt (show sp_bt D h = true from sp_or_t hi (decide_eq_true ⟨c1, c2, by omega⟩))]
      · rw [if_pos c2]
        exact ih () (nxt (fun q => c2 (of_decide_eq_true q).2.1))
def sp_M : Nat := 1000000
theorem pk_M : (1000000 : Int64) = lN sp_M := id rfl
def sp_wc (D : Nat → Nat → Nat) (h c : Nat) : Nat := if sp_mk c (D 3 h) (D 4 h) then (if c = 1 ∧ sp_bt D h = true then 10 * sp_sh D sp_M c else sp_sh D sp_M c) else 0
theorem sp_M_le : sp_M ≤ 1000000000 := by unfold sp_M; omega
theorem sp_wc_le (hB : pk_DB D P) (hc : c < 4) : sp_wc D h c ≤ 990000000000 := by
  have := (sp_sh_le hB hc sp_M_le).2
  unfold sp_wc
  split
  · split <;> omega
  · omega
theorem pc_wc (hN : 1000 ≤ N) (hS : pk_Sd Y t) (hT : pk_CT V t D P) (hB : pk_DB D P) (hh : h < D 2 0) (hc : c < 4) : q_X5_weightOfCause N Y V t (nI h) (nI c) = some (lN (sp_wc D h c)) := by
  have b1 : D 2 0 ≤ 6 := hB.2.2.2.2.2.2.2.2.2.1
  have b0 := hB.1
  obtain ⟨q3, q4, -⟩ := hB.2.2.2.2.2.2.2.2.2.2.1 h hh
  obtain ⟨g1, g2, -, -⟩ := hT.2.2.2.1 h hh
  unfold q_X5_weightOfCause
  simp only [pk_M]
  simp (disch := omega) only [hS, pk_ckT, pk_bs, pk_letE, pk_bd2E, pk_bd3E, if_true, if_false, eq_self, not_true_eq_false, not_false_eq_true, true_and, and_true, Nat.not_lt_zero, Nat.zero_le, Nat.reduceEqDiff, Nat.reduceLT, Nat.reduceLeDiff, pk_ck, nI_clamp, pk_inE, g1, g2, pc_may hc q4 (show D 3 h < 200 by omega), pk_lit, pk_B0, pc_share hS hT hB hc sp_M_le, pc_beside hN hS hT hB hh, nI_eq]
  unfold sp_wc
  by_cases q : sp_mk c (D 3 h) (D 4 h)
  · rw [if_neg (fun g => g q), if_pos q]
    by_cases c1 : c = 1
    · rw [if_pos c1]
      by_cases q2 : sp_bt D h = true
      · rw [if_neg (fun g => g q2), if_pos ⟨c1, q2⟩, pk_litL, lN_mul]
      · rw [if_pos q2, if_neg (fun g => q2 g.2)]
    · rw [if_neg c1, if_neg (fun g => c1 g.1)]
  · rw [if_pos q, if_neg q, pk_litL]
def sp_lik (w : Nat → Nat) : Nat → Option Nat
  | 0 => none
  | i + 1 => match sp_lik w i with
    | none => if 0 < w i then some i else none
    | some b => if w b < w i then some i else some b
def sp_top (w : Nat → Nat) (o : Option Nat) : Nat := match o with
  | none => 0
  | some b => w b
theorem sp_lik_lt {w : Nat → Nat} {b : Nat} : ∀ {i}, sp_lik w i = some b → b < i
  | 0, h => by cases h
  | i + 1, h => by
    rw [sp_lik] at h
    cases h1 : sp_lik w i with
    | none =>
      rw [h1] at h
      simp only at h
      split at h
      · cases h; omega
      · cases h
    | some b' =>
      have := sp_lik_lt h1
      rw [h1] at h
      simp only at h
      split at h
      · cases h; omega
      · cases h; omega
theorem sp_lik_step {w : Nat → Nat} {i : Nat} : sp_lik w (i + 1) = if w i ≤ sp_top w (sp_lik w i) then sp_lik w i else some i := by
  rw [sp_lik]
  cases sp_lik w i with
  | none =>
    show (if 0 < w i then some i else none) = if w i ≤ 0 then none else some i
    by_cases c : 0 < w i
    · rw [if_pos c, if_neg (by omega)]
    · rw [if_neg c, if_pos (by omega)]
  | some b =>
    show (if w b < w i then some i else some b) = if w i ≤ w b then some b else some i
    by_cases c : w b < w i
    · rw [if_pos c, if_neg (by omega)]
    · rw [if_neg c, if_pos (by omega)]
theorem sp_top_le {w : Nat → Nat} {o : Option Nat} (hw : ∀ c, c < 4 → w c ≤ m) (ho : ∀ b, o = some b → b < 4) : sp_top w o ≤ m := by
  cases o with
  | none => exact Nat.zero_le _
  | some b => exact hw b (ho b rfl)
theorem sp_sum_ge {w : Nat → Nat} : ∀ {n i : Nat}, i < n → w i ≤ sp_sum w n
  | 0, _, h => by cases h
  | n + 1, i, h => by
    rw [sp_sum]
    by_cases c : i = n
    · rw [c]; omega
    · have := sp_sum_ge (w := w) (n := n) (i := i) (by omega); omega
/-- what the call answers: k = 4 asks for the likeliest -/
def sp_cau (D : Nat → Nat → Nat) (h k : Nat) : Int32 := if k = 4 then pk_on (sp_lik (sp_wc D h) 4) else nI (sp_th (sp_wc D h k) (sp_sum (sp_wc D h) 4))
def pk_ca (k : Nat) : Int32 := if k = 4 then -nI 1 else nI k
theorem pk_ca4 (hk : k < 4) : pk_ca k = nI k := if_neg (by omega)
theorem pc_cause (hN : 1000 ≤ N) (hJ : pk_JC z Y V t u s D P T tl st hs img pl fp r0 r1) (hB : pk_JB D P T tl st hs img) (hh : h < D 2 0) (hk : k < 5) : q_X11_cause N Y V z (nI h) (pk_ca k) = some (.inr (sp_cau D h k)) := by
  obtain ⟨hM, hS, hz, hT, hs5, -⟩ := hJ.o
  have hw : ∀ c, c < 4 → sp_wc D h c ≤ 990000000000 := fun c hc => sp_wc_le hB.1 hc
  have hs4 : ∀ i, i ≤ 4 → sp_sum (sp_wc D h) i ≤ 4 * 990000000000 := fun i hi => Nat.le_trans (sp_sum_le (fun c hc => hw c (by omega))) (Nat.mul_le_mul_right _ hi)
  have hrange : (-1 : Int32) ≤ pk_ca k ∧ pk_ca k ≤ 3 := by
    have : k = 0 ∨ k = 1 ∨ k = 2 ∨ k = 3 ∨ k = 4 := by omega
    rcases this with rfl | rfl | rfl | rfl | rfl <;> decide
  have L := loop_i (σ := Unit) (fun fu i _ => q_X11_cause_25 N Y fu V z (nI h) (pk_ca k) (lN (sp_sum (sp_wc D h) i)) (lN (sp_top (sp_wc D h) (sp_lik (sp_wc D h) i))) (pk_on (sp_lik (sp_wc D h) i)) (nI i) = some (.inr (sp_cau D h k))) (fun _ _ => True) 4 ?_ ?_ N 0 () (by omega) (by omega) trivial
  · rw [q_X11_cause, pk_ck hM.1, pc_needHoleY hS hM hz.1 hT hB.1 hh, pk_bdxR, pc_isWithin, pk_bs, pc_needE, if_pos hrange, pk_bdxR]
    exact L
  · intro fu _ _
    rw [q_X11_cause_25, if_pos (by decide)]
    unfold sp_cau
    by_cases c4 : k = 4
    · rw [if_pos c4, c4, if_pos (by decide)]
    · rw [if_neg c4, pk_ca4 (by omega), if_neg (show ¬ nI k = -1 from fun q => by have := pk_eqm1 (a := k) (by omega); rw [← this]; exact q)]
      simp only [hM, hz, hS, pk_ckT, pk_bs, pk_letE, pk_bd2E, pk_bd3E, if_true, if_false, eq_self, not_true_eq_false, not_false_eq_true, true_and, and_true, Nat.not_lt_zero, Nat.zero_le, Nat.reduceEqDiff, Nat.reduceLT, Nat.reduceLeDiff, pk_ck, pc_wc hN hS hT hB.1 hh (show k < 4 by omega)]
      rw [pc_th hN (sp_sum_ge (by omega)) (by have := hs4 4 (by omega); omega), pk_bs]
  · intro fu i _ hi _ ih
    have ih2 := ih () trivial
    have h1 := hw i hi
    have h2 := sp_top_le (w := sp_wc D h) (o := sp_lik (sp_wc D h) i) hw (fun b hb => by have := sp_lik_lt hb; omega)
    rw [sp_sum] at ih2
    rw [sp_lik_step] at ih2
    rw [q_X11_cause_25, if_neg (show ¬ (4 : Int32) ≤ nI i from nI_ge (b := 4) (by omega) (by omega))]
    simp (disch := omega) only [hM, hz, hS, pk_ckT, pk_bs, pk_letE, pk_bd2E, pk_bd3E, if_true, if_false, eq_self, not_true_eq_false, not_false_eq_true, true_and, and_true, Nat.not_lt_zero, Nat.zero_le, Nat.reduceEqDiff, Nat.reduceLT, Nat.reduceLeDiff, pk_ck, pc_wc hN hS hT hB.1 hh hi, pk_lit, pk_cmpL, pk_lz, q_X11_cause_64, lN_add, nI_add]
    by_cases c : sp_wc D h i ≤ sp_top (sp_wc D h) (sp_lik (sp_wc D h) i)
    · rw [if_pos c] at ih2 ⊢
      exact ih2
    · rw [if_neg c] at ih2 ⊢
      exact ih2
end
