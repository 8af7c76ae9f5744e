/-! tokens: what they are; the class's -/
def tq_sg (c : Nat) : Bool := c == 40 || c == 41 || c == 42 || c == 43 || c == 45 || c == 47 || c == 59 || c == 60 || c == 61
def tq_kd (c : Nat) : Nat := if 97 ≤ c ∧ c ≤ 122 then 1 else if 48 ≤ c ∧ c ≤ 57 then 2 else if tq_sg c then 3 else 4
def tq_s (T : Nat → Nat) (L p : Nat) : Nat := sp_wh (fun i => decide (i < L ∧ (T i = 32 ∨ T i = 10))) 701 p
def tq_r (T : Nat → Nat) (L c p : Nat) : Nat := sp_wh (fun i => decide (i < L ∧ tq_kd (T i) = c)) 701 p
def tq_e (T : Nat → Nat) (L p : Nat) : Nat := if L ≤ tq_s T L p then tq_s T L p else if tq_kd (T (tq_s T L p)) = 1 ∨ tq_kd (T (tq_s T L p)) = 2 then tq_r T L (tq_kd (T (tq_s T L p))) (tq_s T L p + 1) else tq_s T L p + 1
def tq_k (T : Nat → Nat) (L p : Nat) : Nat := if L ≤ tq_s T L p then 0 else tq_kd (T (tq_s T L p))
def pk_txC (z : Nat) (V : bk_Val) (T : Nat → Nat) (L : Nat) : Prop := (∀ j, j < L → bk_rI V (z + 2) j = pk_by (T j)) ∧ (∀ j, T j < 256) ∧ L ≤ 700
def pk_tkC (z : Nat) (V : bk_Val) (T : Nat → Nat) (L p : Nat) : Prop := bk_rI V (z + 55) 1 = nI L ∧ bk_rI V (z + 55) 2 = nI (tq_e T L p) ∧ bk_rI V (z + 55) 3 = nI (tq_s T L p) ∧ bk_rI V (z + 55) 4 = nI (tq_k T L p)
section
variable {N z t u s tl r a b c d k n j h m l p q q0 md wa s' i f e gg v S L : Nat} {Y Y' : bk_Lay} {V V' V2 W : bk_Val} {x y x1 x2 x3 x4 x5 ee : Int32} {w1 w2 : Int64} {D : Nat → Nat → Nat} {P : Nat → List Nat} {T T' w R G In : Nat → Nat} {cc : Nat → Bool}
theorem sp_wh_ge : ∀ n k, k ≤ sp_wh cc n k
  | 0, k => Nat.le_refl k
  | n + 1, k => by
    unfold sp_wh
    split
    · have := sp_wh_ge n (k + 1)
      omega
    · omega
theorem sp_wh_all : ∀ n k i, k ≤ i → i < sp_wh cc n k → cc i = true
  | 0, k, i, h1, h2 => by
    have : sp_wh cc 0 k = k := rfl
    omega
  | n + 1, k, i, h1, h2 => by
    unfold sp_wh at h2
    by_cases c : cc k = true
    · rw [if_pos c] at h2
      by_cases e : i = k
      · rw [e]; exact c
      · exact sp_wh_all n (k + 1) i (by omega) h2
    · rw [if_neg c] at h2
      omega
theorem sp_wh_end (hb : ∀ i, m ≤ i → cc i = false) : ∀ n k, m ≤ k + n → cc (sp_wh cc n k) = false
  | 0, k, h => hb k h
  | n + 1, k, h => by
    unfold sp_wh
    by_cases c : cc k = true
    · rw [if_pos c]
      exact sp_wh_end hb n (k + 1) (by omega)
    · rw [if_neg c]
      cases hk : cc k
      · rfl
      · exact absurd hk c
theorem sp_wh_lt (hb : ∀ i, m ≤ i → cc i = false) (hk : k ≤ m) (n : Nat) : sp_wh cc n k ≤ m := by
  rcases Nat.lt_or_ge m (sp_wh cc n k) with g | g
  · have := sp_wh_all (cc := cc) n k m hk g
    rw [hb m (Nat.le_refl m)] at this
    cases this
  · exact g
theorem tq_s_p (hL : L ≤ 700) (hp : p ≤ L) : p ≤ tq_s T L p ∧ tq_s T L p ≤ L ∧ (∀ i, p ≤ i → i < tq_s T L p → i < L ∧ (T i = 32 ∨ T i = 10)) ∧ ¬ (tq_s T L p < L ∧ (T (tq_s T L p) = 32 ∨ T (tq_s T L p) = 10)) := by
  have hb : ∀ i, L ≤ i → decide (i < L ∧ (T i = 32 ∨ T i = 10)) = false := fun i hi => decide_eq_false (fun q => by omega)
  exact ⟨sp_wh_ge _ _, sp_wh_lt hb hp _, fun i h1 h2 => of_decide_eq_true (sp_wh_all (cc := fun i => decide (i < L ∧ (T i = 32 ∨ T i = 10))) _ _ i h1 h2), of_decide_eq_false (sp_wh_end (cc := fun i => decide (i < L ∧ (T i = 32 ∨ T i = 10))) hb 701 p (by omega))⟩
theorem tq_r_p (hL : L ≤ 700) (hp : p ≤ L) : p ≤ tq_r T L c p ∧ tq_r T L c p ≤ L ∧ (∀ i, p ≤ i → i < tq_r T L c p → i < L ∧ tq_kd (T i) = c) ∧ ¬ (tq_r T L c p < L ∧ tq_kd (T (tq_r T L c p)) = c) := by
  have hb : ∀ i, L ≤ i → decide (i < L ∧ tq_kd (T i) = c) = false := fun i hi => decide_eq_false (fun q => by omega)
  exact ⟨sp_wh_ge _ _, sp_wh_lt hb hp _, fun i h1 h2 => of_decide_eq_true (sp_wh_all (cc := fun i => decide (i < L ∧ tq_kd (T i) = c)) _ _ i h1 h2), of_decide_eq_false (sp_wh_end (cc := fun i => decide (i < L ∧ tq_kd (T i) = c)) hb 701 p (by omega))⟩
theorem tq_kd_b (c : Nat) : 1 ≤ tq_kd c ∧ tq_kd c ≤ 4 := by
  unfold tq_kd
  split
  · omega
  · split
    · omega
    · split <;> omega
theorem tq_k_b : tq_k T L p ≤ 4 := by
  unfold tq_k
  split
  · omega
  · exact (tq_kd_b _).2
/-- where a token ends -/
theorem tq_e_p (hL : L ≤ 700) (hp : p ≤ L) : tq_s T L p ≤ tq_e T L p ∧ tq_e T L p ≤ L ∧ (tq_k T L p ≠ 0 → tq_s T L p < L ∧ tq_s T L p + 1 ≤ tq_e T L p) ∧ (tq_k T L p = 0 → tq_s T L p = L ∧ tq_e T L p = L) := by
  obtain ⟨h1, h2, -⟩ := tq_s_p (T := T) hL hp
  unfold tq_e tq_k
  by_cases c : L ≤ tq_s T L p
  · rw [if_pos c, if_pos c]
    exact ⟨by omega, by omega, fun q => absurd rfl q, fun _ => ⟨by omega, by omega⟩⟩
  · have kb := (tq_kd_b (T (tq_s T L p))).1
    rw [if_neg c, if_neg c]
    by_cases c2 : tq_kd (T (tq_s T L p)) = 1 ∨ tq_kd (T (tq_s T L p)) = 2
    · rw [if_pos c2]
      have h3 := tq_r_p (T := T) (c := tq_kd (T (tq_s T L p))) hL (show tq_s T L p + 1 ≤ L by omega)
      exact ⟨by omega, h3.2.1, fun _ => ⟨by omega, h3.1⟩, fun q => by omega⟩
    · rw [if_neg c2]
      exact ⟨by omega, by omega, fun _ => ⟨by omega, by omega⟩, fun q => by omega⟩
theorem tq_e_le (hL : L ≤ 700) (hp : p ≤ L) : tq_e T L p ≤ L := (tq_e_p hL hp).2.1
theorem tq_e_gt (hL : L ≤ 700) (hp : p ≤ L) (h : tq_k T L p ≠ 0) : p + 1 ≤ tq_e T L p := by
  have h1 := tq_s_p (T := T) hL hp
  have h2 := (tq_e_p (T := T) hL hp).2.2.1 h
  omega
/-! bytes -/
theorem pk_by_i0 : ∀ c, c < 256 → (pk_by c).toInt = if c < 128 then (c : Int) else (c : Int) - 256 := by decide +kernel
theorem pk_by_eq (hc : c < 256) (hs : a < 128) : (pk_by c = nI a) = (c = a) := by
  apply propext
  constructor
  · intro q
    have := congrArg Int32.toInt q
    rw [pk_by_i0 c hc, nI_toInt (by omega)] at this
    split at this <;> omega
  · intro q
    rw [q]
    apply Int32.toInt_inj.mp
    rw [pk_by_i0 a (by omega), if_pos hs, nI_toInt (by omega)]
theorem pc_kind0 : ∀ c, c < 256 → q_X9_kindOf 0 (fun _ => (0, 0), fun _ _ => none, 0) (fun _ _ => 0, fun _ _ => 0) (pk_by c) = some (nI (tq_kd c)) := by decide +kernel
theorem pc_kind (hc : c < 256) : q_X9_kindOf N Y V (pk_by c) = some (nI (tq_kd c)) := (show q_X9_kindOf N Y V (pk_by c) = q_X9_kindOf 0 (fun _ => (0, 0), fun _ _ => none, 0) (fun _ _ => 0, fun _ _ => 0) (pk_by c) from rfl).trans (pc_kind0 c hc)
/-! the class goes to the next token -/
theorem pk_txC.but (h : pk_txC z V T L) (f : pk_but (z + 55) V V') : pk_txC z V' T L := ⟨fun j hj => (congrFun (f.2 (z + 2) (by omega)) j).trans (h.1 j hj), h.2⟩
theorem pk_but.tr (h : pk_but b V V') (h2 : pk_but b V' V2) : pk_but b V V2 := ⟨h2.1.trans h.1, fun a q => (h2.2 a q).trans (h.2 a q)⟩
theorem pk_but.wsl : pk_but b V (bk_wI V b k x) := ⟨rfl, fun _ q => pk_rowI q⟩
theorem pc_s111 (hN : 1000 ≤ N) (hM : pk_Mn Y z) (hx : pk_txC z V T L) (h1 : bk_rI V (z + 55) 1 = nI L) (h2 : bk_rI V (z + 55) 2 = nI p) (h4 : bk_rI V (z + 55) 4 = nI c) (hp : p ≤ L) (hc : c = 1 ∨ c = 2) : ∃ V', q_X9_step_111 N Y N V (z + 55) = some V' ∧ pk_but (z + 55) V V' ∧ bk_rI V' (z + 55) 2 = nI (tq_r T L c p) ∧ ∀ k, k ≠ 2 → bk_rI V' (z + 55) k = bk_rI V (z + 55) k := by
  have hL := hx.2.2
  obtain ⟨r1, r2, r3, r4⟩ := tq_r_p (T := T) (c := c) hL hp
  refine loop_i (σ := bk_Val) (fun fu j V1 => ∃ V', q_X9_step_111 N Y fu V1 (z + 55) = some V' ∧ pk_but (z + 55) V V' ∧ bk_rI V' (z + 55) 2 = nI (tq_r T L c p) ∧ ∀ k, k ≠ 2 → bk_rI V' (z + 55) k = bk_rI V (z + 55) k) (fun j V1 => p ≤ j ∧ pk_but (z + 55) V V1 ∧ bk_rI V1 (z + 55) 2 = nI j ∧ ∀ k, k ≠ 2 → bk_rI V1 (z + 55) k = bk_rI V (z + 55) k) (tq_r T L c p) ?_ ?_ N p V (by omega) (by omega) ⟨Nat.le_refl _, pk_but.rf, h2, fun _ _ => rfl⟩
  · intro fu V1 hV
    obtain ⟨g0, g1, g2, g3⟩ := hV
    have e1 := (g3 1 (by omega)).trans h1
    have e4 := (g3 4 (by omega)).trans h4
    refine ⟨V1, ?_, g1, g2, g3⟩
    have e127 : ∀ K, q_X9_step_127 N Y K V1 (z + 55) = some V1 := fun K => by
      unfold q_X9_step_127
      simp (disch := omega) only [hM, pk_ckT, pk_bs, pk_letE, pk_bd2E, pk_bd3E, if_true, if_false, eq_self, not_true_eq_false, not_false_eq_true, true_and, and_true, Nat.not_lt_zero, Nat.zero_le, Nat.reduceEqDiff, Nat.reduceLT, Nat.reduceLeDiff, pk_ck, pk_lit, nI_add, pk_mul, nI_clamp, nI_leI, nI_ltI, nI_eq, pk_div, pk_remE, pk_inE, pk_sub, e1, g2, e4]
      by_cases c2 : L ≤ tq_r T L c p
      · rw [if_pos c2]
      · rw [if_neg c2]
        have ex := (hx.but g1).1 (tq_r T L c p) (by omega)
        have hk := tq_kd_b (T (tq_r T L c p))
        simp (disch := omega) only [pk_ckT, pk_bs, pk_letE, pk_bd2E, pk_bd3E, if_true, if_false, eq_self, not_true_eq_false, not_false_eq_true, true_and, and_true, Nat.not_lt_zero, Nat.zero_le, Nat.reduceEqDiff, Nat.reduceLT, Nat.reduceLeDiff, pk_ck, pk_lit, nI_add, pk_mul, nI_clamp, nI_leI, nI_ltI, nI_eq, pk_div, pk_remE, pk_inE, pk_sub, ex, pc_kind (hx.2.1 _)]
        rw [if_neg (fun q => r4 ⟨by omega, q⟩)]
    rw [q_X9_step_111]
    simp (disch := omega) only [hM, pk_ckT, pk_bs, pk_letE, pk_bd2E, pk_bd3E, if_true, if_false, eq_self, not_true_eq_false, not_false_eq_true, true_and, and_true, Nat.not_lt_zero, Nat.zero_le, Nat.reduceEqDiff, Nat.reduceLT, Nat.reduceLeDiff, pk_ck, pk_lit, nI_add, pk_mul, nI_clamp, nI_leI, nI_ltI, nI_eq, pk_div, pk_remE, pk_inE, pk_sub, e4, e127]
    rcases hc with hc | hc
    · rw [if_pos hc]
    · rw [if_neg (by omega), if_pos hc]
  · intro fu j V1 hj hV ih
    obtain ⟨g0, g1, g2, g3⟩ := hV
    have e1 := (g3 1 (by omega)).trans h1
    have e4 := (g3 4 (by omega)).trans h4
    have r3j := r3 j g0 hj
    have ex := (hx.but g1).1 j (by omega)
    have hk := tq_kd_b (T j)
    have ih' := ih (bk_wI V1 (z + 55) 2 (nI (j + 1))) ⟨by omega, g1.tr pk_but.wsl, by rw [pk_rI_same, if_pos rfl], fun k q => by rw [pk_rI_same, if_neg q]; exact g3 k q⟩
    have e127 : q_X9_step_127 N Y (q_X9_step_111 N Y fu) V1 (z + 55) = q_X9_step_111 N Y fu (bk_wI V1 (z + 55) 2 (nI (j + 1))) (z + 55) := by
      unfold q_X9_step_127
      simp (disch := omega) only [hM, pk_ckT, pk_bs, pk_letE, pk_bd2E, pk_bd3E, if_true, if_false, eq_self, not_true_eq_false, not_false_eq_true, true_and, and_true, Nat.not_lt_zero, Nat.zero_le, Nat.reduceEqDiff, Nat.reduceLT, Nat.reduceLeDiff, pk_ck, pk_lit, nI_add, pk_mul, nI_clamp, nI_leI, nI_ltI, nI_eq, pk_div, pk_remE, pk_inE, pk_sub, e1, g2, e4, ex, pc_kind (hx.2.1 _)]
      rw [if_neg (by omega), if_pos r3j.2]
    rw [q_X9_step_111]
    simp (disch := omega) only [hM, pk_ckT, pk_bs, pk_letE, pk_bd2E, pk_bd3E, if_true, if_false, eq_self, not_true_eq_false, not_false_eq_true, true_and, and_true, Nat.not_lt_zero, Nat.zero_le, Nat.reduceEqDiff, Nat.reduceLT, Nat.reduceLeDiff, pk_ck, pk_lit, nI_add, pk_mul, nI_clamp, nI_leI, nI_ltI, nI_eq, pk_div, pk_remE, pk_inE, pk_sub, e4, e127]
    rcases hc with hc | hc
    · rw [if_pos hc]; exact ih'
    · rw [if_neg (by omega), if_pos hc]; exact ih'
theorem pc_s60 (hN : 1000 ≤ N) (hM : pk_Mn Y z) (hx : pk_txC z V T L) (h1 : bk_rI V (z + 55) 1 = nI L) (h3 : bk_rI V (z + 55) 3 = nI (tq_s T L p)) (hp : p ≤ L) : ∃ V', q_X9_step_60 N Y V (z + 55) = some V' ∧ pk_but (z + 55) V V' ∧ pk_tkC z V' T L p := by
  have hL := hx.2.2
  obtain ⟨s1, s2, -, -⟩ := tq_s_p (T := T) hL hp
  unfold q_X9_step_60
  simp (disch := omega) only [hM, pk_ckT, pk_bs, pk_letE, pk_bd2E, pk_bd3E, if_true, if_false, eq_self, not_true_eq_false, not_false_eq_true, true_and, and_true, Nat.not_lt_zero, Nat.zero_le, Nat.reduceEqDiff, Nat.reduceLT, Nat.reduceLeDiff, pk_ck, pk_lit, nI_add, pk_mul, nI_clamp, nI_leI, nI_ltI, nI_eq, pk_div, pk_remE, pk_inE, pk_sub, h1, h3, pk_rI_same, pk_rI_ne, pk_rI_wL, pk_rL_wI, pk_rL_same, pk_rL_ne]
  by_cases c : tq_s T L p < L
  · rw [if_pos c]
    have ex := hx.1 (tq_s T L p) c
    have hk := tq_kd_b (T (tq_s T L p))
    simp (disch := omega) only [pk_ckT, pk_bs, pk_letE, pk_bd2E, pk_bd3E, if_true, if_false, eq_self, not_true_eq_false, not_false_eq_true, true_and, and_true, Nat.not_lt_zero, Nat.zero_le, Nat.reduceEqDiff, Nat.reduceLT, Nat.reduceLeDiff, pk_ck, pk_lit, nI_add, pk_mul, nI_clamp, nI_leI, nI_ltI, nI_eq, pk_div, pk_remE, pk_inE, pk_sub, ex, pc_kind (hx.2.1 _), pk_rI_same, pk_rI_ne, pk_rI_wL, pk_rL_wI, pk_rL_same, pk_rL_ne]
    have htk : tq_k T L p = tq_kd (T (tq_s T L p)) := if_neg (by omega)
    have hte : tq_e T L p = if tq_kd (T (tq_s T L p)) = 1 ∨ tq_kd (T (tq_s T L p)) = 2 then tq_r T L (tq_kd (T (tq_s T L p))) (tq_s T L p + 1) else tq_s T L p + 1 := if_neg (by omega)
    obtain ⟨V1, hV1⟩ : ∃ V1, V1 = bk_wI (bk_wI (bk_wI V (z + 55) 2 (nI (tq_s T L p))) (z + 55) 4 (nI (tq_kd (T (tq_s T L p))))) (z + 55) 2 (nI (tq_s T L p + 1)) := ⟨_, rfl⟩
    rw [← hV1]
    have g1 : bk_rI V1 (z + 55) 1 = nI L := by
      rw [hV1]
      simp (disch := omega) only [pk_rI_same, pk_rI_ne, pk_rI_wL, pk_rL_wI, pk_rL_same, pk_rL_ne, pk_ckT, pk_bs, pk_letE, pk_bd2E, pk_bd3E, if_true, if_false, eq_self, not_true_eq_false, not_false_eq_true, true_and, and_true, Nat.not_lt_zero, Nat.zero_le, Nat.reduceEqDiff, Nat.reduceLT, Nat.reduceLeDiff, pk_ck, h1]
    have g2 : bk_rI V1 (z + 55) 2 = nI (tq_s T L p + 1) := by
      rw [hV1]
      simp (disch := omega) only [pk_rI_same, pk_rI_ne, pk_rI_wL, pk_rL_wI, pk_rL_same, pk_rL_ne, pk_ckT, pk_bs, pk_letE, pk_bd2E, pk_bd3E, if_true, if_false, eq_self, not_true_eq_false, not_false_eq_true, true_and, and_true, Nat.not_lt_zero, Nat.zero_le, Nat.reduceEqDiff, Nat.reduceLT, Nat.reduceLeDiff, pk_ck]
    have g3 : bk_rI V1 (z + 55) 3 = nI (tq_s T L p) := by
      rw [hV1]
      simp (disch := omega) only [pk_rI_same, pk_rI_ne, pk_rI_wL, pk_rL_wI, pk_rL_same, pk_rL_ne, pk_ckT, pk_bs, pk_letE, pk_bd2E, pk_bd3E, if_true, if_false, eq_self, not_true_eq_false, not_false_eq_true, true_and, and_true, Nat.not_lt_zero, Nat.zero_le, Nat.reduceEqDiff, Nat.reduceLT, Nat.reduceLeDiff, pk_ck, h3]
    have g4 : bk_rI V1 (z + 55) 4 = nI (tq_kd (T (tq_s T L p))) := by
      rw [hV1]
      simp (disch := omega) only [pk_rI_same, pk_rI_ne, pk_rI_wL, pk_rL_wI, pk_rL_same, pk_rL_ne, pk_ckT, pk_bs, pk_letE, pk_bd2E, pk_bd3E, if_true, if_false, eq_self, not_true_eq_false, not_false_eq_true, true_and, and_true, Nat.not_lt_zero, Nat.zero_le, Nat.reduceEqDiff, Nat.reduceLT, Nat.reduceLeDiff, pk_ck]
    have gb : pk_but (z + 55) V V1 := by rw [hV1]; exact (pk_but.wsl.tr pk_but.wsl).tr pk_but.wsl
    by_cases c2 : tq_kd (T (tq_s T L p)) = 1 ∨ tq_kd (T (tq_s T L p)) = 2
    · obtain ⟨V', e1, e2, e3, e4⟩ := pc_s111 (N := N) hN hM (hx.but gb) g1 g2 g4 (by omega) c2
      refine ⟨V', e1, gb.tr e2, (e4 1 (by omega)).trans g1, ?_, (e4 3 (by omega)).trans g3, ?_⟩
      · rw [e3, hte, if_pos c2]
      · rw [e4 4 (by omega), g4, htk]
    · refine ⟨V1, ?_, gb, g1, by rw [g2, hte, if_neg c2], g3, by rw [g4, htk]⟩
      obtain ⟨m, hm⟩ : ∃ m, N = m + 1 := ⟨N - 1, by omega⟩
      conv => lhs; arg 3; rw [hm]
      rw [q_X9_step_111]
      simp (disch := omega) only [hM, pk_ckT, pk_bs, pk_letE, pk_bd2E, pk_bd3E, if_true, if_false, eq_self, not_true_eq_false, not_false_eq_true, true_and, and_true, Nat.not_lt_zero, Nat.zero_le, Nat.reduceEqDiff, Nat.reduceLT, Nat.reduceLeDiff, pk_ck, pk_lit, nI_add, pk_mul, nI_clamp, nI_leI, nI_ltI, nI_eq, pk_div, pk_remE, pk_inE, pk_sub, g4]
      rw [if_neg (by omega), if_neg (by omega)]
  · rw [if_neg c]
    have htk : tq_k T L p = 0 := if_pos (by omega)
    have hte : tq_e T L p = tq_s T L p := if_pos (by omega)
    refine ⟨_, rfl, pk_but.wsl.tr pk_but.wsl, ?_, ?_, ?_, ?_⟩
    · simp (disch := omega) only [pk_rI_same, pk_rI_ne, pk_rI_wL, pk_rL_wI, pk_rL_same, pk_rL_ne, pk_ckT, pk_bs, pk_letE, pk_bd2E, pk_bd3E, if_true, if_false, eq_self, not_true_eq_false, not_false_eq_true, true_and, and_true, Nat.not_lt_zero, Nat.zero_le, Nat.reduceEqDiff, Nat.reduceLT, Nat.reduceLeDiff, pk_ck, h1]
    · simp (disch := omega) only [pk_rI_same, pk_rI_ne, pk_rI_wL, pk_rL_wI, pk_rL_same, pk_rL_ne, pk_ckT, pk_bs, pk_letE, pk_bd2E, pk_bd3E, if_true, if_false, eq_self, not_true_eq_false, not_false_eq_true, true_and, and_true, Nat.not_lt_zero, Nat.zero_le, Nat.reduceEqDiff, Nat.reduceLT, Nat.reduceLeDiff, pk_ck, hte]
    · simp (disch := omega) only [pk_rI_same, pk_rI_ne, pk_rI_wL, pk_rL_wI, pk_rL_same, pk_rL_ne, pk_ckT, pk_bs, pk_letE, pk_bd2E, pk_bd3E, if_true, if_false, eq_self, not_true_eq_false, not_false_eq_true, true_and, and_true, Nat.not_lt_zero, Nat.zero_le, Nat.reduceEqDiff, Nat.reduceLT, Nat.reduceLeDiff, pk_ck, h3]
    · simp (disch := omega) only [pk_rI_same, pk_rI_ne, pk_rI_wL, pk_rL_wI, pk_rL_same, pk_rL_ne, pk_ckT, pk_bs, pk_letE, pk_bd2E, pk_bd3E, if_true, if_false, eq_self, not_true_eq_false, not_false_eq_true, true_and, and_true, Nat.not_lt_zero, Nat.zero_le, Nat.reduceEqDiff, Nat.reduceLT, Nat.reduceLeDiff, pk_ck, htk]
theorem pc_step (hN : 1000 ≤ N) (hM : pk_Mn Y z) (hx : pk_txC z V T L) (h1 : bk_rI V (z + 55) 1 = nI L) (h2 : bk_rI V (z + 55) 2 = nI p) (hp : p ≤ L) : ∃ V', q_X9_step N Y V (z + 55) = some V' ∧ pk_but (z + 55) V V' ∧ pk_tkC z V' T L p := by
  have hL := hx.2.2
  obtain ⟨s1, s2, s3, s4⟩ := tq_s_p (T := T) hL hp
  have e0 : q_X9_step N Y V (z + 55) = q_X9_step_8 N Y N (bk_wI V (z + 55) 3 (nI p)) (z + 55) := by
    simp only [q_X9_step, hM, pk_ckT, pk_bs, pk_letE, pk_bd2E, pk_bd3E, if_true, if_false, eq_self, not_true_eq_false, not_false_eq_true, true_and, and_true, Nat.not_lt_zero, Nat.zero_le, Nat.reduceEqDiff, Nat.reduceLT, Nat.reduceLeDiff, pk_ck, h2]
  rw [e0]
  refine loop_i (σ := bk_Val) (fun fu j V1 => ∃ V', q_X9_step_8 N Y fu V1 (z + 55) = some V' ∧ pk_but (z + 55) V V' ∧ pk_tkC z V' T L p) (fun j V1 => p ≤ j ∧ pk_but (z + 55) V V1 ∧ bk_rI V1 (z + 55) 3 = nI j ∧ bk_rI V1 (z + 55) 1 = nI L) (tq_s T L p) ?_ ?_ N p (bk_wI V (z + 55) 3 (nI p)) (by omega) (by omega) ⟨Nat.le_refl _, pk_but.wsl, by rw [pk_rI_same, if_pos rfl], by rw [pk_rI_same, if_neg (by omega)]; exact h1⟩
  · intro fu V1 hV
    obtain ⟨g0, g1, g2, g3⟩ := hV
    obtain ⟨V', e1, e2, e3⟩ := pc_s60 (N := N) hN hM (hx.but g1) g3 g2 hp
    refine ⟨V', ?_, g1.tr e2, e3⟩
    rw [q_X9_step_8]
    simp (disch := omega) only [hM, pk_ckT, pk_bs, pk_letE, pk_bd2E, pk_bd3E, if_true, if_false, eq_self, not_true_eq_false, not_false_eq_true, true_and, and_true, Nat.not_lt_zero, Nat.zero_le, Nat.reduceEqDiff, Nat.reduceLT, Nat.reduceLeDiff, pk_ck, pk_lit, nI_add, pk_mul, nI_clamp, nI_leI, nI_ltI, nI_eq, pk_div, pk_remE, pk_inE, pk_sub, g2, g3]
    by_cases c : L ≤ tq_s T L p
    · rw [if_pos c]; exact e1
    · rw [if_neg c]
      have ex := (hx.but g1).1 (tq_s T L p) (by omega)
      have k32 := pk_by_eq (a := 32) (hx.2.1 (tq_s T L p)) (by omega)
      have k10 := pk_by_eq (a := 10) (hx.2.1 (tq_s T L p)) (by omega)
      simp (disch := omega) only [pk_ckT, pk_bs, pk_letE, pk_bd2E, pk_bd3E, if_true, if_false, eq_self, not_true_eq_false, not_false_eq_true, true_and, and_true, Nat.not_lt_zero, Nat.zero_le, Nat.reduceEqDiff, Nat.reduceLT, Nat.reduceLeDiff, pk_ck, pk_lit, nI_add, pk_mul, nI_clamp, nI_leI, nI_ltI, nI_eq, pk_div, pk_remE, pk_inE, pk_sub, ex, k32, k10]
      rw [if_neg (fun q => s4 ⟨by omega, Or.inl q⟩), if_neg (fun q => s4 ⟨by omega, Or.inr q⟩)]
      exact e1
  · intro fu j V1 hj hV ih
    obtain ⟨g0, g1, g2, g3⟩ := hV
    have s3j := s3 j g0 hj
    have ex := (hx.but g1).1 j (by omega)
    have k32 := pk_by_eq (a := 32) (hx.2.1 j) (by omega)
    have k10 := pk_by_eq (a := 10) (hx.2.1 j) (by omega)
    have ih' := ih (bk_wI V1 (z + 55) 3 (nI (j + 1))) ⟨by omega, g1.tr pk_but.wsl, by rw [pk_rI_same, if_pos rfl], by rw [pk_rI_same, if_neg (by omega)]; exact g3⟩
    rw [q_X9_step_8]
    simp (disch := omega) only [hM, pk_ckT, pk_bs, pk_letE, pk_bd2E, pk_bd3E, if_true, if_false, eq_self, not_true_eq_false, not_false_eq_true, true_and, and_true, Nat.not_lt_zero, Nat.zero_le, Nat.reduceEqDiff, Nat.reduceLT, Nat.reduceLeDiff, pk_ck, pk_lit, nI_add, pk_mul, nI_clamp, nI_leI, nI_ltI, nI_eq, pk_div, pk_remE, pk_inE, pk_sub, g2, g3, ex, k32, k10, q_X9_step_47]
    rw [if_neg (by omega)]
    by_cases c : T j = 32
    · rw [if_pos c]; exact ih'
    · rw [if_neg c, if_pos (s3j.2.resolve_left c)]; exact ih'
end
