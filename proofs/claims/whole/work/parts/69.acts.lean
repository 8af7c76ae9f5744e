/-! acts of the class -/
def pk_J0 (z : Nat) (Y : bk_Lay) (V : bk_Val) (t u s : Nat) (D : Nat → Nat → Nat) (P : Nat → List Nat) (T : Nat → Nat) (tl : Nat) (st : pk_St) (hs : List pk_St) (img : Option (pk_St × List pk_St)) (pl : Option (Nat → Nat)) (fp r0 r1 : Int32) : Prop :=
  pk_Fix z Y ∧ ((t = z + 10 ∧ u = z + 32) ∨ (t = z + 32 ∧ u = z + 10)) ∧ (bk_rR Y z 5 = some t ∧ bk_rR Y z 6 = some u ∧ bk_rR Y z 7 = some s) ∧
  pk_CT V t D P ∧ (bk_rI V (z + 1) 1 = nI tl ∧ ∀ j, j < tl → bk_rI V (z + 2) j = pk_by (T j)) ∧
  pk_Ch z Y V (D 0 0) s st hs ∧ bk_rI V z 8 = nI hs.length ∧ pk_CI z Y V (D 0 0) img ∧ pk_CP z V pl ∧
  (bk_rI V z 12 = fp ∧ bk_rI V z 13 = r0 ∧ bk_rI V z 14 = r1)
section
variable {N z t u s tl r a b c d k n j h m l p q0 md wa : Nat} {Y Y' : bk_Lay} {V V' V2 : bk_Val} {x y x1 x2 x3 x4 x5 : Int32} {D : Nat → Nat → Nat} {P : Nat → List Nat} {T w : Nat → Nat} {st : pk_St} {hs : List pk_St} {img : Option (pk_St × List pk_St)} {pl : Option (Nat → Nat)} {fp r0 r1 : Int32} {A : pk_A}
theorem pk_JC.j0 (h : pk_JC z Y V t u s D P T tl st hs img pl fp r0 r1) : pk_J0 z Y V t u s D P T tl st hs img pl fp r0 r1 := by
  obtain ⟨h1, h2, h3, h4, h5, h6, h7, h8, h9, h10, -⟩ := h
  exact ⟨h1, h2, h3, h4, h5, h6, h7, h8, h9, h10⟩
theorem pk_J0.jc (h : pk_J0 z Y V t u s D P T tl st hs img pl fp r0 r1) (o : pk_CO z Y V t D st.2.2.2) : pk_JC z Y V t u s D P T tl st hs img pl fp r0 r1 := by
  obtain ⟨h1, h2, h3, h4, h5, h6, h7, h8, h9, h10⟩ := h
  exact ⟨h1, h2, h3, h4, h5, h6, h7, h8, h9, h10, o⟩
theorem pk_J0.of (h : pk_J0 z Y V t u s D P T tl st hs img pl fp r0 r1) (f : pk_Fix z Y') (y2 : ∀ k, bk_rR Y' z k = bk_rR Y z k) (kp : pk_kp z Y V Y' V') (e1 : ∀ a, z ≤ a → a < z + 54 → a ≠ t + 17 → a ≠ t + 20 → a ≠ t + 21 → a ≠ z + 9 → (a < z + 3 ∨ z + 7 < a) → V'.1 a = V.1 a) : pk_J0 z Y' V' t u s D P T tl st hs img pl fp r0 r1 := by
  obtain ⟨h1, h2, ⟨h3, h3a, h3b⟩, h4, ⟨h5, h5a⟩, h6, h7, h8, h9, ⟨h10, h10a, h10b⟩⟩ := h
  have g1 : ∀ a j, z ≤ a → a < z + 54 → a ≠ t + 17 → a ≠ t + 20 → a ≠ t + 21 → a ≠ z + 9 → (a < z + 3 ∨ z + 7 < a) → bk_rI V' a j = bk_rI V a j := fun a j q1 q2 q3 q4 q5 q6 q7 => congrFun (e1 a q1 q2 q3 q4 q5 q6 q7) j
  have m1 := fun k => g1 z k (by omega) (by omega) (by omega) (by omega) (by omega) (by omega) (by omega)
  refine ⟨f, h2, ⟨by rw [y2]; exact h3, by rw [y2]; exact h3a, by rw [y2]; exact h3b⟩, h4.of (fun a q1 q2 q3 => e1 a (by omega) (by omega) q3 (by omega) (by omega) (by omega) (by omega)), ⟨(g1 _ _ (by omega) (by omega) (by omega) (by omega) (by omega) (by omega) (by omega)).trans h5, fun j hj => (g1 _ _ (by omega) (by omega) (by omega) (by omega) (by omega) (by omega) (by omega)).trans (h5a j hj)⟩, h6.kp kp, (m1 8).trans h7, ?_, ?_, ⟨(m1 12).trans h10, (m1 13).trans h10a, (m1 14).trans h10b⟩⟩
  · cases img with
    | none => exact (y2 9).trans h8
    | some g =>
      obtain ⟨s', i1, i2, i3⟩ := h8
      exact ⟨s', (y2 9).trans i1, i2.kp kp, (m1 10).trans i3⟩
  · cases pl with
    | none => exact (m1 11).trans h9
    | some f => exact ⟨(m1 11).trans h9.1, fun i hi => (g1 _ _ (by omega) (by omega) (by omega) (by omega) (by omega) (by omega) (by omega)).trans (h9.2 i hi)⟩
theorem pk_CO.of (h : pk_CO z Y V t D w) (y : bk_rR Y' (z + 3) 4 = bk_rR Y (z + 3) 4) (e1 : ∀ a, z + 3 ≤ a → a ≤ z + 7 → V'.1 a = V.1 a ∧ V'.2 a = V.2 a) : pk_CO z Y' V' t D w := by
  have g1 : ∀ a j, z + 3 ≤ a → a ≤ z + 7 → bk_rI V' a j = bk_rI V a j := fun a j q1 q2 => congrFun (e1 a q1 q2).1 j
  have g2 : ∀ a j, z + 3 ≤ a → a ≤ z + 7 → bk_rL V' a j = bk_rL V a j := fun a j q1 q2 => congrFun (e1 a q1 q2).2 j
  have m3 := fun k => g1 (z + 3) k (by omega) (by omega)
  rcases h with h11 | ⟨o1, o2, k, o3, o4, o5, o6, o7, o8⟩
  · exact Or.inl ((m3 6).trans h11)
  · exact Or.inr ⟨(m3 6).trans o1, y.trans o2, k, o3, (m3 5).trans o4, fun i hi => (g1 _ _ (by omega) (by omega)).trans (o5 i hi), fun i hi => (g2 _ _ (by omega) (by omega)).trans (o6 i hi), fun i hi => (g2 _ _ (by omega) (by omega)).trans (o7 i hi), fun i hi => (g2 _ _ (by omega) (by omega)).trans (o8 i hi)⟩
theorem pk_rowR {r' : Option Nat} (h : b ≠ a) : (bk_wR Y a k r').2.1 b = Y.2.1 b := bk_up2_off _ _ h
theorem pk_rowN {q : Nat × Nat} (h : b ≠ bk_sz Y) : (bk_nw Y q).2.1 b = Y.2.1 b := va_up_ne _ _ h
theorem pk_rowZ (h : b ≠ bk_sz Y) : (bk_nz Y V).1 b = V.1 b ∧ (bk_nz Y V).2 b = V.2 b := ⟨va_up_ne _ _ h, va_up_ne _ _ h⟩
/-- an act is kept -/
theorem pc_keepAct (h : pk_J0 z Y V t u s D P T tl st hs img pl fp r0 r1) (hl : hs.length ≤ 40) (hw : pk_rg z Y wa) (hw2 : bk_sh Y wa = (3, 4 * D 0 0)) (hw3 : ∀ p, p < 4 * D 0 0 → bk_rL V wa p = lN (w p)) : ∃ Y' V', q_X11_keepAct N Y V z (nI p) (nI m) (nI md) wa = some (Y', V') ∧ pk_J0 z Y' V' t u (bk_sz Y) D P T tl (p, m, md, w) ((st :: hs).take 40) img pl fp r0 r1 ∧ (∀ w, pk_CO z Y V t D w → pk_CO z Y' V' t D w) ∧ pk_offR z V V' ∧ pk_kp z Y V Y' V' := by
  have hF := h.1
  have hsz : z + 87 ≤ bk_sz Y := hF.2.2
  have hM := hF.mn
  have h7 : bk_rR Y z 7 = some s := h.2.2.1.2.2
  have h8 : bk_rI V z 8 = nI hs.length := h.2.2.2.2.2.2.1
  let Y' : bk_Lay := bk_wR (bk_wR (bk_wR (bk_nw Y (1, 5)) (bk_sz Y) 0 (some s)) (bk_sz Y) 4 (some wa)) z 7 (some (bk_sz Y))
  let V1 : bk_Val := bk_wI (bk_wI (bk_wI (bk_nz Y V) (bk_sz Y) 1 (nI p)) (bk_sz Y) 2 (nI m)) (bk_sz Y) 3 (nI md)
  let V' : bk_Val := bk_wI V1 z 8 (nI (min (hs.length + 1) 40))
  have hlen : ((st :: hs).take 40).length = min (hs.length + 1) 40 := by rw [List.length_take, Nat.min_comm]; rfl
  have rowV : ∀ a, a ≠ bk_sz Y → a ≠ z → V'.1 a = V.1 a ∧ V'.2 a = V.2 a := fun a q1 q2 => by
    refine ⟨?_, (pk_rowZ q1).2⟩
    show (bk_wI V1 z 8 _).1 a = _
    rw [pk_rowI q2, pk_rowI q1, pk_rowI q1, pk_rowI q1]
    exact (pk_rowZ q1).1
  have rowz : ∀ k, k ≠ 8 → bk_rI V' z k = bk_rI V z k := fun k q => by
    show (bk_wI V1 z 8 _).1 z k = _
    rw [pk_slot q, pk_rowI (by omega), pk_rowI (by omega), pk_rowI (by omega), (pk_rowZ (by omega)).1]
    rfl
  have rowY : ∀ a, a ≠ bk_sz Y → a ≠ z → Y'.2.1 a = Y.2.1 a := fun a q1 q2 => by
    show (bk_wR _ z 7 _).2.1 a = _
    rw [pk_rowR q2, pk_rowR q1, pk_rowR q1, pk_rowN q1]
  have shY : ∀ a, a ≠ bk_sz Y → bk_sh Y' a = bk_sh Y a := fun a q1 => by
    show bk_sh (bk_nw Y (1, 5)) a = _
    rw [pk_sh_nw, if_neg q1]
  have rz : ∀ k, k ≠ 7 → bk_rR Y' z k = bk_rR Y z k := fun k q => by
    show bk_rR (bk_wR _ z 7 _) z k = _
    rw [pk_rR_wR, if_neg (fun g => q g.2), pk_rR_wR, if_neg (by omega), pk_rR_wR, if_neg (by omega), pk_rR_nw, if_neg (by omega)]
  have kp : pk_kp z Y V Y' V' := by
    refine ⟨by show bk_sz Y ≤ bk_sz Y + 1; omega, fun a ha => ?_⟩
    have q1 : a ≠ bk_sz Y := by have := ha.2; omega
    have q2 : a ≠ z := by have := ha.1; omega
    exact ⟨shY a q1, rowY a q1 q2, rowV a q1 q2⟩
  have fix : pk_Fix z Y' := (((hF.nw.wR (by omega)).wR (by omega)).wR (by omega))
  have old : ∀ a, a ≠ bk_sz Y → a ≠ z → V'.1 a = V.1 a := fun a q1 q2 => (rowV a q1 q2).1
  have szs : bk_sz Y' = bk_sz Y + 1 := rfl
  obtain ⟨g1, g2, ⟨g3, g3a, g3b⟩, g4, ⟨g5, g5a⟩, g6, g7, g8, g9, ⟨g10, g10a, g10b⟩⟩ := h
  have ch : pk_Ch z Y' V' (D 0 0) (bk_sz Y) (p, m, md, w) (st :: hs) := by
    refine ⟨⟨⟨by omega, by omega⟩, ?_, ?_, ?_, ?_, wa, ?_, hw.kp kp.1, ?_, fun q hq => ?_⟩, s, ?_, g6.kp kp⟩
    · show bk_sh (bk_nw Y (1, 5)) (bk_sz Y) = _
      rw [pk_sh_nw, if_pos rfl]
    · show bk_rI (bk_wI V1 z 8 _) (bk_sz Y) 1 = _
      simp (disch := omega) only [V1, pk_rI_same, pk_rI_ne, pk_rI_wL, pk_rL_wI, pk_rL_same, pk_rL_ne, pk_ckT, pk_bs, pk_letE, pk_bd2E, pk_bd3E, if_true, if_false, eq_self, not_true_eq_false, not_false_eq_true, true_and, and_true, Nat.not_lt_zero, Nat.zero_le, Nat.reduceEqDiff, Nat.reduceLT, Nat.reduceLeDiff, pk_ck]
    · show bk_rI (bk_wI V1 z 8 _) (bk_sz Y) 2 = _
      simp (disch := omega) only [V1, pk_rI_same, pk_rI_ne, pk_rI_wL, pk_rL_wI, pk_rL_same, pk_rL_ne, pk_ckT, pk_bs, pk_letE, pk_bd2E, pk_bd3E, if_true, if_false, eq_self, not_true_eq_false, not_false_eq_true, true_and, and_true, Nat.not_lt_zero, Nat.zero_le, Nat.reduceEqDiff, Nat.reduceLT, Nat.reduceLeDiff, pk_ck]
    · show bk_rI (bk_wI V1 z 8 _) (bk_sz Y) 3 = _
      simp (disch := omega) only [V1, pk_rI_same, pk_rI_ne, pk_rI_wL, pk_rL_wI, pk_rL_same, pk_rL_ne, pk_ckT, pk_bs, pk_letE, pk_bd2E, pk_bd3E, if_true, if_false, eq_self, not_true_eq_false, not_false_eq_true, true_and, and_true, Nat.not_lt_zero, Nat.zero_le, Nat.reduceEqDiff, Nat.reduceLT, Nat.reduceLeDiff, pk_ck]
    · show bk_rR (bk_wR _ z 7 _) (bk_sz Y) 4 = _
      rw [pk_rR_wR, if_neg (by omega), pk_rR_wR, if_pos ⟨rfl, rfl⟩]
    · rw [(kp.2 wa hw).1]; exact hw2
    · rw [← hw3 q hq]; exact congrFun (kp.2 wa hw).2.2.2 q
    · show bk_rR (bk_wR _ z 7 _) (bk_sz Y) 0 = _
      rw [pk_rR_wR, if_neg (by omega), pk_rR_wR, if_neg (by omega), pk_rR_wR, if_pos ⟨rfl, rfl⟩]
  refine ⟨Y', V', ?_, ⟨fix, g2, ⟨by rw [rz 5 (by omega)]; exact g3, by rw [rz 6 (by omega)]; exact g3a, ?_⟩, g4.of (fun a q1 q2 q3 => old a (by omega) (by omega)), ⟨(congrFun (old (z + 1) (by omega) (by omega)) 1).trans g5, fun j hj => (congrFun (old (z + 2) (by omega) (by omega)) j).trans (g5a j hj)⟩, ch.take 40, ?_, ?_, ?_, ⟨(rowz 12 (by omega)).trans g10, (rowz 13 (by omega)).trans g10a, (rowz 14 (by omega)).trans g10b⟩⟩, ?_, ?_, kp⟩
  · have e1 : bk_sh (bk_nw Y (1, 5)) z = (1, 10) := by rw [pk_sh_nw, if_neg (by omega)]; exact hM.1
    have e2 : bk_rR (bk_nw Y (1, 5)) z 7 = some s := by rw [pk_rR_nw, if_neg (by omega)]; exact h7
    have e3 : bk_sh (bk_nw Y (1, 5)) (bk_sz Y) = (1, 5) := by rw [pk_sh_nw, if_pos rfl]
    have e4 : bk_rI V1 z 8 = nI hs.length := by
      simp (disch := omega) only [V1, pk_rI_same, pk_rI_ne, pk_rI_wL, pk_rL_wI, pk_rL_same, pk_rL_ne]
      rw [pk_rI_nz, if_neg (by omega)]
      exact h8
    simp only [q_X11_keepAct, pk_letE, e1, e2, pk_bs, pk_ckT, eq_self, q_X6_init, e3, pk_bd2E, pk_sh_wR]
    show (q_J9_min_7cf53 N Y' V1 (bk_rI V1 z 8 + 1) 40).bind _ = _
    rw [e4]
    simp (disch := omega) only [pk_lit, nI_add, pc_min, pk_bs]
    rfl
  · show bk_rR (bk_wR _ z 7 _) z 7 = _
    rw [pk_rR_wR, if_pos ⟨rfl, rfl⟩]
  · rw [hlen]
    show bk_rI (bk_wI V1 z 8 _) z 8 = _
    simp only [pk_rI_same, if_true]
  · cases img with
    | none => exact (rz 9 (by omega)).trans g8
    | some g =>
      obtain ⟨s', i1, i2, i3⟩ := g8
      exact ⟨s', (rz 9 (by omega)).trans i1, i2.kp kp, (rowz 10 (by omega)).trans i3⟩
  · cases pl with
    | none => exact (rowz 11 (by omega)).trans g9
    | some f => exact ⟨(rowz 11 (by omega)).trans g9.1, fun i hi => (congrFun (old (z + 8) (by omega) (by omega)) i).trans (g9.2 i hi)⟩
  · intro w' ho
    exact ho.of (congrFun (rowY (z + 3) (by omega) (by omega)) 4) (fun a q1 q2 => rowV a (by omega) (by omega))
  · intro a q1 q2
    exact rowV a (by omega) (by omega)
end
