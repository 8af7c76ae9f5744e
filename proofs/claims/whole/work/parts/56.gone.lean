/-! rules by the reference; what goes -/
section
variable {N : Nat} {Y : bk_Lay} {V : bk_Val} {t r a b c d k v w : Nat} {x y lo hi : Int32} {D : Nat → Nat → Nat} {P : Nat → List Nat}
theorem pr_works (h : a < 10) (h0 : 0 < a) (h3 : a ≠ 3) : q_X12_works N Y V (nI (sp_tag a)) x y = some (sp_bin a x y) := by
  have hc : a = 1 ∨ a = 2 ∨ a = 4 ∨ a = 5 ∨ a = 6 ∨ a = 7 ∨ a = 8 ∨ a = 9 := by omega
  rcases hc with rfl | rfl | rfl | rfl | rfl | rfl | rfl | rfl
  · rw [q_X12_works, pk_letE, if_neg (by decide), if_pos (by decide)]
    by_cases h1 : x = 0
    · rw [if_pos h1]
      by_cases h2 : y = 0
      · rw [if_pos h2]; exact congrArg some (pk_Bf (c := ¬ x = nI 0 ∨ ¬ y = nI 0) (fun q => q.elim (fun q => q h1) (fun q => q h2))).symm
      · rw [if_neg h2]; exact congrArg some (pk_Bt (c := ¬ x = nI 0 ∨ ¬ y = nI 0) (Or.inr h2)).symm
    · rw [if_neg h1]; exact congrArg some (pk_Bt (c := ¬ x = nI 0 ∨ ¬ y = nI 0) (Or.inl h1)).symm
  · rw [q_X12_works, pk_letE, if_pos (by decide)]
    by_cases h1 : x = 0
    · rw [if_pos h1]; exact congrArg some (pk_Bf (c := ¬ x = nI 0 ∧ ¬ y = nI 0) (fun q => q.1 h1)).symm
    · rw [if_neg h1]
      by_cases h2 : y = 0
      · rw [if_pos h2]; exact congrArg some (pk_Bf (c := ¬ x = nI 0 ∧ ¬ y = nI 0) (fun q => q.2 h2)).symm
      · rw [if_neg h2]; exact congrArg some (pk_Bt (c := ¬ x = nI 0 ∧ ¬ y = nI 0) ⟨h1, h2⟩).symm
  · rw [q_X12_works, pk_letE, if_neg (by decide), if_neg (by decide), if_pos (by decide)]
    by_cases h1 : y ≤ x
    · rw [if_pos h1]; exact congrArg some (pk_Bf (c := x < y) (Int32.not_lt.mpr h1)).symm
    · rw [if_neg h1]; exact congrArg some (pk_Bt (c := x < y) (Int32.not_le.mp h1)).symm
  · rw [q_X12_works, pk_letE, if_neg (by decide), if_neg (by decide), if_neg (by decide), if_pos (by decide)]
    by_cases h1 : x = y
    · rw [if_pos h1]; exact congrArg some (pk_Bt (c := x = y) h1).symm
    · rw [if_neg h1]; exact congrArg some (pk_Bf (c := x = y) h1).symm
  · rw [q_X12_works, pk_letE, if_neg (by decide), if_neg (by decide), if_neg (by decide), if_neg (by decide), if_pos (by decide)]; rfl
  · rw [q_X12_works, pk_letE, if_neg (by decide), if_neg (by decide), if_neg (by decide), if_neg (by decide), if_neg (by decide), if_pos (by decide)]; rfl
  · rw [q_X12_works, pk_letE, if_neg (by decide), if_neg (by decide), if_neg (by decide), if_neg (by decide), if_neg (by decide), if_neg (by decide), if_pos (by decide)]; rfl
  · rw [q_X12_works, pk_letE, if_neg (by decide), if_neg (by decide), if_neg (by decide), if_neg (by decide), if_neg (by decide), if_neg (by decide), if_neg (by decide)]
    by_cases h2 : y = 0
    · rw [if_pos h2]; exact congrArg some (show _ = sp_bin 9 x y from (if_pos h2).symm)
    · rw [if_neg h2, pk_ck h2]; exact congrArg some (show _ = sp_bin 9 x y from (if_neg h2).symm)
theorem pr_reck {e : Nat → Int32} (s1 : bk_sh Y r = (1, 11)) (s2 : bk_rR Y r 18 = some (r + 5)) (s3 : bk_rR Y r 65 = some (r + 18)) (s4 : bk_rR Y r 66 = some (r + 19)) (s5 : bk_sh Y (r + 5) = (2, 1900)) (s6 : bk_sh Y (r + 18) = (2, 9)) (s7 : bk_sh Y (r + 19) = (2, 950))
    (hv : ∀ j, j < v → sp_vm w j < 9) (he : ∀ j, j < v → bk_rI V (r + 18) (sp_vm w j) = e j) :
    ∀ (m : List Nat) (i k n : Nat) (f : Nat → Int32) (V' : bk_Val), pk_RC V (r + 5) w m i → sp_ok v m k → k ≤ 40 → (∀ j, j < k → bk_rI V' (r + 19) j = f j) → pk_but (r + 19) V V' → m.length < n →
      ∃ V2, q_X12_reckons_4 N Y n V' r (nI k) (nI i) = some (sp_ev e m f k, V2) ∧ pk_but (r + 19) V V2 := by
  intro m
  induction m with
  | nil =>
    intro i k n f V' hC ho hk hf hV hn
    obtain ⟨n, rfl⟩ : ∃ n', n = n' + 1 := ⟨n - 1, by omega⟩
    have e1 : k = 1 := ho
    obtain ⟨hi, hC⟩ := hC
    have r1 : bk_rI V' (r + 5) i = nI 0 := by rw [hV.rd (by omega)]; exact hC
    subst e1
    refine ⟨V', ?_, hV⟩
    rw [q_X12_reckons_4]
    simp (disch := omega) only [s1, s2, s4, s5, s7, pk_ckT, pk_bs, pk_letE, pk_bd2E, pk_bd3E, if_true, if_false, eq_self, not_true_eq_false, not_false_eq_true, true_and, and_true, Nat.not_lt_zero, Nat.zero_le, Nat.reduceEqDiff, Nat.reduceLT, Nat.reduceLeDiff, pk_ck, pk_lit, nI_add, pk_mul, nI_clamp, nI_leI, nI_ltI, nI_eq, pk_div, pk_remE, pk_inE, pk_sub, r1]
    rw [hf 0 (by omega)]
    rfl
  | cons o m ih =>
    intro i k n f V' hC ho hk hf hV hn
    obtain ⟨n, rfl⟩ : ∃ n', n = n' + 1 := ⟨n - 1, by omega⟩
    have IH := fun i' k' f' V2 hc h1 h2 h3 h4 => ih i' k' n f' V2 hc h1 h2 h3 h4 (by have : (o :: m).length = m.length + 1 := rfl; omega)
    unfold sp_ok at ho
    unfold pk_RC at hC
    rw [q_X12_reckons_4]
    by_cases c1 : o < 20000
    · rw [if_pos c1] at ho
      obtain ⟨o1, o2, o3⟩ := ho
      by_cases c2 : o < 10000
      · rw [if_pos c2] at hC
        obtain ⟨g1, g2, g3, g4⟩ := hC
        have r2 : bk_rI V' (r + 5) i = nI 1 := by rw [hV.rd (by omega)]; exact g2
        have r3 : bk_rI V' (r + 5) (i + 1) = nI o := by rw [hV.rd (by omega)]; exact g3
        simp (disch := omega) only [s1, s2, s4, s5, s7, pk_ckT, pk_bs, pk_letE, pk_bd2E, pk_bd3E, if_true, if_false, eq_self, not_true_eq_false, not_false_eq_true, true_and, and_true, Nat.not_lt_zero, Nat.zero_le, Nat.reduceEqDiff, Nat.reduceLT, Nat.reduceLeDiff, pk_ck, pk_lit, nI_add, pk_mul, nI_clamp, nI_leI, nI_ltI, nI_eq, pk_div, pk_remE, pk_inE, pk_sub, r2, q_X12_reckons_36, r3, q_X12_reckons_67, q_X12_reckons_140]
        rw [sp_ev, if_pos c2]
        exact IH _ _ _ _ g4 o3 (by omega) (pk_stk hf (Nat.le_refl k)) hV.wI
      · rw [if_neg c2, if_pos c1] at hC
        obtain ⟨g1, g2, g3, g4⟩ := hC
        have o4 := o2 (by omega)
        have r2 : bk_rI V' (r + 5) i = nI 2 := by rw [hV.rd (by omega)]; exact g2
        have r3 : bk_rI V' (r + 5) (i + 1) = nI (sp_vm w (o - 10000)) := by rw [hV.rd (by omega)]; exact g3
        have r4 := hv (o - 10000) (by omega)
        have r5 : bk_rI V' (r + 18) (sp_vm w (o - 10000)) = e (o - 10000) := by rw [hV.rd (by omega)]; exact he _ (by omega)
        rw [sp_ev, if_neg c2, if_pos c1]
        generalize o - 10000 = j at *
        simp (disch := omega) only [s1, s2, s3, s4, s5, s6, s7, pk_ckT, pk_bs, pk_letE, pk_bd2E, pk_bd3E, if_true, if_false, eq_self, not_true_eq_false, not_false_eq_true, true_and, and_true, Nat.not_lt_zero, Nat.zero_le, Nat.reduceEqDiff, Nat.reduceLT, Nat.reduceLeDiff, pk_ck, pk_lit, nI_add, pk_mul, nI_clamp, nI_leI, nI_ltI, nI_eq, pk_div, pk_remE, pk_inE, pk_sub, r2, q_X12_reckons_36, r3, r5, q_X12_reckons_67, q_X12_reckons_140]
        exact IH _ _ _ _ g4 o3 (by omega) (pk_stk hf (Nat.le_refl k)) hV.wI
    · rw [if_neg c1] at ho
      rw [if_neg (show ¬ o < 10000 by omega), if_neg c1] at hC
      obtain ⟨o1, o2, o3⟩ := ho
      obtain ⟨g1, g2, g4⟩ := hC
      have r2 : bk_rI V' (r + 5) i = nI (sp_tag (o - 20000)) := by rw [hV.rd (by omega)]; exact g2
      rw [sp_ev, if_neg (show ¬ o < 10000 by omega), if_neg c1]
      generalize hj : o - 20000 = j at *
      have hj1 : 0 < j ∧ j < 10 ∧ o = j + 20000 := by omega
      have ht : sp_tag j = 3 ↔ j = 3 := by unfold sp_tag; split <;> (try split) <;> (try split) <;> omega
      have ht2 : 2 < sp_tag j ∧ sp_tag j < 12 := by unfold sp_tag; split <;> (try split) <;> (try split) <;> omega
      simp (disch := omega) only [s1, s2, s5, pk_ckT, pk_bs, pk_letE, pk_bd2E, pk_bd3E, if_true, if_false, eq_self, not_true_eq_false, not_false_eq_true, true_and, and_true, Nat.not_lt_zero, Nat.zero_le, Nat.reduceEqDiff, Nat.reduceLT, Nat.reduceLeDiff, pk_ck, pk_lit, nI_add, pk_mul, nI_clamp, nI_leI, nI_ltI, nI_eq, pk_div, pk_remE, pk_inE, pk_sub, r2]
      rw [if_neg (by omega), if_neg (by omega), if_neg (by omega)]
      by_cases c3 : o = 20003
      · rw [if_pos c3] at o3
        rw [if_pos (show sp_tag j = 3 from ht.mpr (by omega)), if_pos c3]
        simp (disch := omega) only [s4, s7, pk_ckT, pk_bs, pk_letE, pk_bd2E, pk_bd3E, if_true, if_false, eq_self, not_true_eq_false, not_false_eq_true, true_and, and_true, Nat.not_lt_zero, Nat.zero_le, Nat.reduceEqDiff, Nat.reduceLT, Nat.reduceLeDiff, pk_ck, pk_lit, nI_add, pk_mul, nI_clamp, nI_leI, nI_ltI, nI_eq, pk_div, pk_remE, pk_inE, pk_sub]
        rw [hf (k - 1) (by omega)]
        have hk1 : k - 1 + 1 = k := by omega
        have fin : ∀ w : Int32, ∃ V2, q_X12_reckons_4 N Y n (bk_wI V' (r + 19) (k - 1) w) r (nI k) (nI (i + 1)) = some (sp_ev e m (upd f (k - 1) w) k, V2) ∧ pk_but (r + 19) V V2 := fun w => by
          refine IH _ k _ _ g4 o3.2 hk ?_ hV.wI
          have := pk_stk (s := r + 19) (k := k) (f := f) (V' := V') (m := k - 1) (w := w) hf (by omega)
          rw [hk1] at this
          exact this
        by_cases c4 : f (k - 1) = nI 0
        · rw [if_pos c4]
          simp (disch := omega) only [q_X12_reckons_106, s7, pk_ckT, pk_bs, pk_letE, pk_bd2E, pk_bd3E, if_true, if_false, eq_self, not_true_eq_false, not_false_eq_true, true_and, and_true, Nat.not_lt_zero, Nat.zero_le, Nat.reduceEqDiff, Nat.reduceLT, Nat.reduceLeDiff, pk_ck, pk_lit, nI_add, pk_mul, nI_clamp, nI_leI, nI_ltI, nI_eq, pk_div, pk_remE, pk_inE, pk_sub, q_X12_reckons_140]
          rw [show pk_B (f (k - 1) = nI 0) = nI 1 from if_pos c4]
          exact fin (nI 1)
        · rw [if_neg c4]
          simp (disch := omega) only [q_X12_reckons_106, s7, pk_ckT, pk_bs, pk_letE, pk_bd2E, pk_bd3E, if_true, if_false, eq_self, not_true_eq_false, not_false_eq_true, true_and, and_true, Nat.not_lt_zero, Nat.zero_le, Nat.reduceEqDiff, Nat.reduceLT, Nat.reduceLeDiff, pk_ck, pk_lit, nI_add, pk_mul, nI_clamp, nI_leI, nI_ltI, nI_eq, pk_div, pk_remE, pk_inE, pk_sub, q_X12_reckons_140]
          rw [show pk_B (f (k - 1) = nI 0) = nI 0 from if_neg c4]
          exact fin (nI 0)
      · rw [if_neg c3] at o3
        rw [if_neg (show ¬ sp_tag j = 3 from fun q => by have := ht.mp q; omega), if_neg c3]
        simp (disch := omega) only [s4, s7, pk_ckT, pk_bs, pk_letE, pk_bd2E, pk_bd3E, if_true, if_false, eq_self, not_true_eq_false, not_false_eq_true, true_and, and_true, Nat.not_lt_zero, Nat.zero_le, Nat.reduceEqDiff, Nat.reduceLT, Nat.reduceLeDiff, pk_ck, pk_lit, nI_add, pk_mul, nI_clamp, nI_leI, nI_ltI, nI_eq, pk_div, pk_remE, pk_inE, pk_sub, pk_addm1]
        rw [pr_works (by omega) (by omega) (by omega), hf _ (show k - 1 - 1 < k by omega), hf _ (show k - 1 < k by omega)]
        simp (disch := omega) only [pk_ckT, pk_bs, pk_letE, pk_bd2E, pk_bd3E, if_true, if_false, eq_self, not_true_eq_false, not_false_eq_true, true_and, and_true, Nat.not_lt_zero, Nat.zero_le, Nat.reduceEqDiff, Nat.reduceLT, Nat.reduceLeDiff, pk_ck, pk_lit, nI_add, pk_mul, nI_clamp, nI_leI, nI_ltI, nI_eq, pk_div, pk_remE, pk_inE, pk_sub, q_X12_reckons_140, pk_addm1]
        rw [show k - 1 - 1 = k - 2 by omega]
        have hk1 : k - 2 + 1 = k - 1 := by omega
        refine IH _ (k - 1) _ _ g4 o3.2 (by omega) ?_ hV.wI
        have := pk_stk (s := r + 19) (k := k) (f := f) (V' := V') (m := k - 2) (w := sp_bin j (f (k - 2)) (f (k - 1))) hf (by omega)
        rw [hk1] at this
        exact this
end
