/-! rules worked out by class and reference -/
section
variable {N : Nat} {Y : bk_Lay} {V : bk_Val} {t r a b c d k v : Nat} {x y lo hi : Int32} {D : Nat → Nat → Nat} {P : Nat → List Nat}
theorem pc_numberOf1 (h : a < 10000) : q_X4_numberOf N Y V (nI a) b = some (nI a) := by
  unfold q_X4_numberOf
  rw [if_neg (show ¬ (10000 : Int32) ≤ nI a from nI_ge (a := a) (b := 10000) (by omega) (by decide))]
theorem pc_numberOf2 (h : 10000 ≤ a) (h2 : a < 10006) (hb : bk_sh Y b = (2, 6)) : q_X4_numberOf N Y V (nI a) b = some (bk_rI V b (a - 10000)) := by
  unfold q_X4_numberOf
  rw [if_pos (show (10000 : Int32) ≤ nI a from nI_le (by omega) (by omega)), show nI a - 10000 = nI (a - 10000) from pk_sub h, hb]
  simp (disch := omega) only [pk_ckT, pk_bs, pk_letE, pk_bd2E, pk_bd3E, if_true, if_false, eq_self, not_true_eq_false, not_false_eq_true, true_and, and_true, Nat.not_lt_zero, Nat.zero_le, Nat.reduceEqDiff, Nat.reduceLT, Nat.reduceLeDiff, pk_ck, pk_lit, nI_add, pk_mul, nI_clamp, nI_leI, nI_ltI, nI_eq, pk_div, pk_remE, pk_inE, pk_sub]
  rw [if_neg (by omega)]
theorem pk_updI {f : Nat → Int32} {i j : Nat} {w : Int32} : upd f i w j = if j = i then w else f j := rfl
/-- cells but one are as before -/
def pk_but (s : Nat) (V V' : bk_Val) : Prop := V'.2 = V.2 ∧ ∀ a, a ≠ s → V'.1 a = V.1 a
theorem pk_but.rf {s : Nat} : pk_but s V V := ⟨rfl, fun _ _ => rfl⟩
theorem pk_but.wI {s i : Nat} {V' : bk_Val} {w : Int32} (h : pk_but s V V') : pk_but s V (bk_wI V' s i w) := by
  refine ⟨h.1, fun a ha => ?_⟩
  rw [← h.2 a ha]
  exact bk_up2_off _ _ ha
theorem pk_but.rd {s i j : Nat} {V' : bk_Val} (h : pk_but s V V') (hj : j ≠ s) : bk_rI V' j i = bk_rI V j i := congrFun (h.2 j hj) i
theorem pk_stk {s k : Nat} {f : Nat → Int32} {V' : bk_Val} {m : Nat} {w : Int32} (h : ∀ j, j < k → bk_rI V' s j = f j) (hm : m ≤ k) : ∀ j, j < m + 1 → bk_rI (bk_wI V' s m w) s j = upd f m w j := by
  intro j hj
  rw [pk_rI_wI, pk_updI]
  by_cases e : j = m
  · rw [if_pos ⟨rfl, e⟩, if_pos e]
  · rw [if_neg (fun q => e q.2), if_neg e]
    exact h j (by omega)
theorem pc_value {e : Nat → Int32} {l : List Nat} (s1 : bk_sh Y a = (1, 3)) (s2 : bk_rR Y a 0 = some (a + 1)) (s3 : bk_rR Y a 1 = some (a + 2)) (s4 : bk_sh Y (a + 1) = (2, 700)) (s5 : bk_sh Y (a + 2) = (2, 40)) (s6 : bk_sh Y b = (2, 6)) (hb : b ≠ a + 2)
    (hC : pk_CR V a (a + 1) l) (hl : l.length ≤ 700) (hv : v ≤ 6) (he : ∀ j, j < v → bk_rI V b j = e j) :
    ∀ (m : List Nat) (i k n : Nat) (f : Nat → Int32) (V' : bk_Val), i + m.length = l.length → (∀ j, j < m.length → l.getD (i + j) 0 = m.getD j 0) → sp_ok v m k → k ≤ 40 → (∀ j, j < k → bk_rI V' (a + 2) j = f j) → pk_but (a + 2) V V' → m.length < n →
      ∃ V2, q_X4_valueBy_4 N Y n V' a b (nI k) (nI i) = some (sp_ev e m f k, V2) ∧ pk_but (a + 2) V V2 := by
  intro m
  induction m with
  | nil =>
    intro i k n f V' hi hm ho hk hf hV hn
    obtain ⟨n, rfl⟩ : ∃ n', n = n' + 1 := ⟨n - 1, by omega⟩
    have e1 : k = 1 := ho
    have r1 : bk_rI V' a 2 = nI l.length := by rw [hV.rd (by omega)]; exact hC.1
    subst e1
    refine ⟨V', ?_, hV⟩
    simp only [List.length_nil, Nat.add_zero] at hi
    simp (disch := omega) only [q_X4_valueBy_4, s1, s3, s5, pk_ckT, pk_bs, pk_letE, pk_bd2E, pk_bd3E, if_true, if_false, eq_self, not_true_eq_false, not_false_eq_true, true_and, and_true, Nat.not_lt_zero, Nat.zero_le, Nat.reduceEqDiff, Nat.reduceLT, Nat.reduceLeDiff, pk_ck, pk_lit, nI_add, pk_mul, nI_clamp, nI_leI, nI_ltI, nI_eq, pk_div, pk_remE, pk_inE, pk_sub, r1, hi, Nat.le_refl]
    rw [hf 0 (by omega)]
    rfl
  | cons o m ih =>
    intro i k n f V' hi hm ho hk hf hV hn
    obtain ⟨n, rfl⟩ : ∃ n', n = n' + 1 := ⟨n - 1, by omega⟩
    have r1 : bk_rI V' a 2 = nI l.length := by rw [hV.rd (by omega)]; exact hC.1
    have hlen : (o :: m).length = m.length + 1 := rfl
    have r2 : bk_rI V' (a + 1) i = pk_cs o := by
      rw [hV.rd (by omega), hC.2 i (by omega)]
      have := hm 0 (by omega)
      rw [Nat.add_zero] at this
      rw [this]
      rfl
    have hm2 : ∀ j, j < m.length → l.getD (i + 1 + j) 0 = m.getD j 0 := by
      intro j hj
      have := hm (j + 1) (by omega)
      rw [show i + 1 + j = i + (j + 1) by omega, this]
      rfl
    have IH := fun k' f' V2 h1 h2 h3 h4 => ih (i + 1) k' n f' V2 (by omega) hm2 h1 h2 h3 h4 (by omega)
    unfold sp_ok at ho
    rw [q_X4_valueBy_4]
    simp (disch := omega) only [s1, s2, s4, pk_ckT, pk_bs, pk_letE, pk_bd2E, pk_bd3E, if_true, if_false, eq_self, not_true_eq_false, not_false_eq_true, true_and, and_true, Nat.not_lt_zero, Nat.zero_le, Nat.reduceEqDiff, Nat.reduceLT, Nat.reduceLeDiff, pk_ck, pk_lit, nI_add, pk_mul, nI_clamp, nI_leI, nI_ltI, nI_eq, pk_div, pk_remE, pk_inE, pk_sub, r1, r2]
    rw [if_neg (by omega)]
    by_cases c1 : o < 20000
    · rw [if_pos c1] at ho
      obtain ⟨o1, o2, o3⟩ := ho
      rw [pk_cs1 c1]
      simp (disch := omega) only [s1, s3, s5, pk_ckT, pk_bs, pk_letE, pk_bd2E, pk_bd3E, if_true, if_false, eq_self, not_true_eq_false, not_false_eq_true, true_and, and_true, Nat.not_lt_zero, Nat.zero_le, Nat.reduceEqDiff, Nat.reduceLT, Nat.reduceLeDiff, pk_ck, pk_lit, nI_add, pk_mul, nI_clamp, nI_leI, nI_ltI, nI_eq, pk_div, pk_remE, pk_inE, pk_sub]
      rw [if_neg (by omega)]
      by_cases c2 : o < 10000
      · simp (disch := omega) only [pc_numberOf1, pk_ckT, pk_bs, pk_letE, pk_bd2E, pk_bd3E, if_true, if_false, eq_self, not_true_eq_false, not_false_eq_true, true_and, and_true, Nat.not_lt_zero, Nat.zero_le, Nat.reduceEqDiff, Nat.reduceLT, Nat.reduceLeDiff, pk_ck, pk_lit, nI_add, pk_mul, nI_clamp, nI_leI, nI_ltI, nI_eq, pk_div, pk_remE, pk_inE, pk_sub, s5, q_X4_valueBy_125, sp_ev]
        rw [if_pos c2]
        exact IH _ _ _ o3 (by omega) (pk_stk hf (Nat.le_refl k)) hV.wI
      · have o4 := o2 (by omega)
        rw [pc_numberOf2 (by omega) (by omega) s6]
        simp (disch := omega) only [pk_ckT, pk_bs, pk_letE, pk_bd2E, pk_bd3E, if_true, if_false, eq_self, not_true_eq_false, not_false_eq_true, true_and, and_true, Nat.not_lt_zero, Nat.zero_le, Nat.reduceEqDiff, Nat.reduceLT, Nat.reduceLeDiff, pk_ck, pk_lit, nI_add, pk_mul, nI_clamp, nI_leI, nI_ltI, nI_eq, pk_div, pk_remE, pk_inE, pk_sub, s5, q_X4_valueBy_125, sp_ev]
        rw [if_neg c2, if_pos c1, hV.rd hb, he _ (by omega)]
        exact IH _ _ _ o3 (by omega) (pk_stk hf (Nat.le_refl k)) hV.wI
    · rw [if_neg c1] at ho
      obtain ⟨o1, o2, o3⟩ := ho
      rw [pk_cs2 (by omega), sp_ev, if_neg (show ¬ o < 10000 by omega), if_neg c1]
      generalize hj : o - 20000 = j
      have hj1 : 0 < j ∧ j < 10 ∧ o = j + 20000 := by omega
      simp (disch := omega) only [pk_neglt, pk_ckT, pk_bs, pk_letE, pk_bd2E, pk_bd3E, if_true, if_false, eq_self, not_true_eq_false, not_false_eq_true, true_and, and_true, Nat.not_lt_zero, Nat.zero_le, Nat.reduceEqDiff, Nat.reduceLT, Nat.reduceLeDiff, pk_ck, pk_lit, pk_negeq]
      by_cases c3 : o = 20003
      · rw [if_pos c3] at o3
        rw [if_pos (show j = 3 by omega), if_pos c3]
        simp (disch := omega) only [s3, s5, pk_ckT, pk_bs, pk_letE, pk_bd2E, pk_bd3E, if_true, if_false, eq_self, not_true_eq_false, not_false_eq_true, true_and, and_true, Nat.not_lt_zero, Nat.zero_le, Nat.reduceEqDiff, Nat.reduceLT, Nat.reduceLeDiff, pk_ck, pk_lit, nI_add, pk_mul, nI_clamp, nI_leI, nI_ltI, nI_eq, pk_div, pk_remE, pk_inE, pk_sub]
        rw [if_neg (by omega), hf (k - 1) (by omega)]
        have hk1 : k - 1 + 1 = k := by omega
        have fin : ∀ w : Int32, ∃ V2, q_X4_valueBy_4 N Y n (bk_wI V' (a + 2) (k - 1) w) a b (nI k) (nI (i + 1)) = some (sp_ev e m (upd f (k - 1) w) k, V2) ∧ pk_but (a + 2) V V2 := fun w => by
          refine IH k _ _ o3.2 hk ?_ hV.wI
          have := pk_stk (s := a + 2) (k := k) (f := f) (V' := V') (m := k - 1) (w := w) hf (by omega)
          rw [hk1] at this
          exact this
        by_cases c4 : f (k - 1) = nI 0
        · rw [if_pos c4]
          simp (disch := omega) only [q_X4_valueBy_83, q_X4_oneIf, s5, pk_ckT, pk_bs, pk_letE, pk_bd2E, pk_bd3E, if_true, if_false, eq_self, not_true_eq_false, not_false_eq_true, true_and, and_true, Nat.not_lt_zero, Nat.zero_le, Nat.reduceEqDiff, Nat.reduceLT, Nat.reduceLeDiff, pk_ck, pk_lit, nI_add, pk_mul, nI_clamp, nI_leI, nI_ltI, nI_eq, pk_div, pk_remE, pk_inE, pk_sub, q_X4_valueBy_125]
          rw [show pk_B (f (k - 1) = nI 0) = nI 1 from if_pos c4]
          exact fin (nI 1)
        · rw [if_neg c4]
          simp (disch := omega) only [q_X4_valueBy_83, q_X4_oneIf, s5, pk_ckT, pk_bs, pk_letE, pk_bd2E, pk_bd3E, if_true, if_false, eq_self, not_true_eq_false, not_false_eq_true, true_and, and_true, Nat.not_lt_zero, Nat.zero_le, Nat.reduceEqDiff, Nat.reduceLT, Nat.reduceLeDiff, pk_ck, pk_lit, nI_add, pk_mul, nI_clamp, nI_leI, nI_ltI, nI_eq, pk_div, pk_remE, pk_inE, pk_sub, q_X4_valueBy_125]
          rw [show pk_B (f (k - 1) = nI 0) = nI 0 from if_neg c4]
          exact fin (nI 0)
      · rw [if_neg c3] at o3
        rw [if_neg (show ¬ j = 3 by omega), if_neg c3]
        simp (disch := omega) only [s3, s5, pk_ckT, pk_bs, pk_letE, pk_bd2E, pk_bd3E, if_true, if_false, eq_self, not_true_eq_false, not_false_eq_true, true_and, and_true, Nat.not_lt_zero, Nat.zero_le, Nat.reduceEqDiff, Nat.reduceLT, Nat.reduceLeDiff, pk_ck, pk_lit, nI_add, pk_mul, nI_clamp, nI_leI, nI_ltI, nI_eq, pk_div, pk_remE, pk_inE, pk_sub, pk_addm1]
        rw [if_neg (by omega), pc_joined (by omega) (by omega) (by omega), hf _ (show k - 1 - 1 < k by omega), hf _ (show k - 1 < k by omega)]
        simp (disch := omega) only [pk_ckT, pk_bs, pk_letE, pk_bd2E, pk_bd3E, if_true, if_false, eq_self, not_true_eq_false, not_false_eq_true, true_and, and_true, Nat.not_lt_zero, Nat.zero_le, Nat.reduceEqDiff, Nat.reduceLT, Nat.reduceLeDiff, pk_ck, pk_lit, nI_add, pk_mul, nI_clamp, nI_leI, nI_ltI, nI_eq, pk_div, pk_remE, pk_inE, pk_sub, q_X4_valueBy_125, pk_addm1]
        rw [show k - 1 - 1 = k - 2 by omega]
        have hk1 : k - 2 + 1 = k - 1 := by omega
        refine IH (k - 1) _ _ o3.2 (by omega) ?_ hV.wI
        have := pk_stk (s := a + 2) (k := k) (f := f) (V' := V') (m := k - 2) (w := sp_bin j (f (k - 2)) (f (k - 1))) hf (by omega)
        rw [hk1] at this
        exact this
end
