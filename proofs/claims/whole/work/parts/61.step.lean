/-! a step out of a run of the class and one of the reference -/
abbrev pk_A : Type := (Nat → Nat → Nat) × (Nat → List Nat) × (Nat → Nat) × Nat × pk_St × List pk_St × Option (pk_St × List pk_St) × Option (Nat → Nat) × Int32 × Int32 × Int32
def pk_CA (z : Nat) (Y : bk_Lay) (V : bk_Val) (A : pk_A) : Prop := ∃ t u s, pk_JC z Y V t u s A.1 A.2.1 A.2.2.1 A.2.2.2.1 A.2.2.2.2.1 A.2.2.2.2.2.1 A.2.2.2.2.2.2.1 A.2.2.2.2.2.2.2.1 A.2.2.2.2.2.2.2.2.1 A.2.2.2.2.2.2.2.2.2.1 A.2.2.2.2.2.2.2.2.2.2
def pk_RA (r : Nat) (V : bk_Val) (A : pk_A) : Prop := pk_JR r V A.1 A.2.1 A.2.2.1 A.2.2.2.1 A.2.2.2.2.1 A.2.2.2.2.2.1 A.2.2.2.2.2.2.1 A.2.2.2.2.2.2.2.1 A.2.2.2.2.2.2.2.2.1 A.2.2.2.2.2.2.2.2.2.1 A.2.2.2.2.2.2.2.2.2.2
def pk_BA (A : pk_A) : Prop := pk_JB A.1 A.2.1 A.2.2.1 A.2.2.2.1 A.2.2.2.2.1 A.2.2.2.2.2.1 A.2.2.2.2.2.2.1
def pk_IA (z : Nat) (Y : bk_Lay) (V : bk_Val) : Prop := ∃ A, pk_CA z Y V A ∧ pk_RA (z + 58) V A ∧ pk_BA A
/-- a run of the class leaves the reference's cells -/
def pk_offR (z : Nat) (V V' : bk_Val) : Prop := ∀ a, z + 58 ≤ a → a < z + 86 → V'.1 a = V.1 a ∧ V'.2 a = V.2 a
/-- a run of the reference -/
def pk_RO (r : Nat) (V V' : bk_Val) (A : pk_A) (k : Nat) : Prop := bk_rI V' r 0 = nI k ∧ (∀ a, a < r ∨ r + 27 < a → V'.1 a = V.1 a ∧ V'.2 a = V.2 a) ∧ pk_RA r V' A
section
variable {N z t u s r k : Nat} {Y Y' Y1 : bk_Lay} {V V' V1 V2 : bk_Val} {A B : pk_A}
theorem pk_offR.rf : pk_offR z V V := fun _ _ _ => ⟨rfl, rfl⟩
theorem pk_RA.off (h : pk_RA (z + 58) V A) (o : pk_offR z V V') : pk_RA (z + 58) V' A := by
  unfold pk_RA at *
  exact h.of (fun a q1 q2 _ _ _ _ => (o a (by omega) (by omega)).1) (fun k _ _ _ _ _ _ => congrFun (o (z + 58) (by omega) (by omega)).1 k) (fun a q1 q2 _ _ _ => (o a (by omega) (by omega)).2)
theorem pk_CA.rf (h : pk_CA z Y V A) : pk_Rf Y (z + 58) ∧ bk_sh Y (z + 86) = (3, 1) := by
  obtain ⟨t, u, s, h1, -⟩ := h
  exact ⟨h1.rf, h1.1 (86, 3, 1) (by decide)⟩
theorem pk_CA.off (h : pk_CA z Y V A) (o : ∀ a, a < z + 58 ∨ z + 58 + 27 < a → a ≠ z + 86 → V'.1 a = V.1 a ∧ V'.2 a = V.2 a) : pk_CA z Y V' A := by
  obtain ⟨t, u, s, h⟩ := h
  exact ⟨t, u, s, h.of rfl rfl (Nat.le_refl _) (fun a _ _ _ _ _ _ => (o a (by omega) (by omega)).1) (fun a _ _ => (o a (by omega) (by omega)).2) (fun a _ => o a (by omega) (by omega))⟩
theorem pk_CA.sz (h : pk_CA z Y V A) (y1 : Y'.1 = Y.1) (y2 : Y'.2.1 = Y.2.1) (y3 : bk_sz Y ≤ bk_sz Y') : pk_CA z Y' V A := by
  obtain ⟨t, u, s, h⟩ := h
  exact ⟨t, u, s, h.of y1 y2 y3 (fun a _ _ _ _ _ _ => rfl) (fun a _ _ => rfl) (fun a _ => ⟨rfl, rfl⟩)⟩
theorem pk_RO.I (h : pk_RO (z + 58) V V' B k) (hC : pk_CA z Y V B) (hB : pk_BA B) : pk_IA z Y V' := ⟨B, hC.off (fun a q _ => h.2.1 a q), h.2.2, hB⟩
theorem pr_thrown (hS : pk_Rf Y r) : q_X12_thrown N Y V r = some (bk_rI V r 0) := by
  simp only [q_X12_thrown, hS, pk_ckT, eq_self]
/-- calls that may throw -/
theorem pk_stp {α β : Type} {g : α → Int64 × bk_Lay × bk_Val} {cd : Nat → Int32} {out : Nat ⊕ α} {qR : bk_Lay → bk_Val → Option (β × bk_Val)} {cv : β → Int64} (hC : pk_CA z Y V A) (hR : pk_RA (z + 58) V A) (hB : pk_BA A)
    (ht : ∀ e, out = .inl e → ∃ k, cd e = nI k ∧ 0 < k ∧ k < 3 ∧ ∀ Y1 V1, pk_Rf Y1 (z + 58) → pk_RA (z + 58) V1 A → ∃ r2 V2, qR Y1 V1 = some (r2, V2) ∧ pk_RO (z + 58) V1 V2 A k)
    (ho : ∀ o, out = .inr o → ∃ B, pk_CA z (g o).2.1 (g o).2.2 B ∧ pk_offR z V (g o).2.2 ∧ pk_BA B ∧ ∀ Y1 V1, pk_Rf Y1 (z + 58) → pk_RA (z + 58) V1 A → ∃ r2 V2, qR Y1 V1 = some (r2, V2) ∧ pk_RO (z + 58) V1 V2 B 0 ∧ (g o).1 = cv r2) :
    (∀ o, out = .inr o → bk_sh (g o).2.1 (z + 86) = (3, 1)) ∧ ∀ k Y1 V1, bk_hr Y V (z + 86) cd (bk_on g out) k Y1 V1 → bk_sh Y1 (z + 58) = (1, 11) ∧ ∃ r2 V2, qR Y1 V1 = some (r2, V2) ∧ bk_sh Y1 (z + 58) = (1, 11) ∧ q_X12_thrown N Y1 V2 (z + 58) = some k ∧ bk_sh Y1 (z + 86) = (3, 1) ∧ (k = 0 → bk_rL V2 (z + 86) 0 = cv r2) ∧ pk_IA z Y1 V2 := by
  constructor
  · intro o e
    obtain ⟨B, h1, -⟩ := ho o e
    exact h1.rf.2
  · intro k Y1 V1 hh
    cases out with
    | inl e =>
      obtain ⟨e1, e2, zz, e3, e4⟩ := hh
      obtain ⟨k', h1, h2, h3, h4⟩ := ht e rfl
      have hC1 : pk_CA z Y1 V A := hC.sz (by rw [e4]) (by rw [e4]) (by rw [e4]; exact e3)
      obtain ⟨r2, V2, q1, q2⟩ := h4 Y1 V hC1.rf.1 hR
      refine ⟨hC1.rf.1.1, r2, V2, by rw [e2]; exact q1, hC1.rf.1.1, ?_, hC1.rf.2, fun q => ?_, q2.I hC1 hB⟩
      · rw [pr_thrown hC1.rf.1, q2.1, e1, h1]
      · exact absurd (show nI k' = nI 0 by rw [← h1, ← e1, q]; rfl) (by rw [nI_eq (by omega) (by omega)]; omega)
    | inr o =>
      obtain ⟨e1, e2, e3⟩ := hh
      obtain ⟨B, h1, h2, h3, h4⟩ := ho o rfl
      have h1' : pk_CA z Y1 (g o).2.2 B := by rw [e2]; exact h1
      have hC1 : pk_CA z Y1 V1 B := by
        rw [e3]
        exact h1'.off (fun a _ q => ⟨rfl, bk_up2_off _ _ q⟩)
      have hR1 : pk_RA (z + 58) V1 A := by
        rw [e3]
        refine hR.off (fun a q1 q2 => ?_)
        exact ⟨(h2 a q1 q2).1, (bk_up2_off _ _ (by omega)).trans (h2 a q1 q2).2⟩
      obtain ⟨r2, V2, q1, q2, q3⟩ := h4 Y1 V1 hC1.rf.1 hR1
      refine ⟨hC1.rf.1.1, r2, V2, q1, hC1.rf.1.1, ?_, hC1.rf.2, fun _ => ?_, q2.I hC1 h3⟩
      · rw [pr_thrown hC1.rf.1, q2.1, e1]; rfl
      · rw [← q3]
        have := (q2.2.1 (z + 86) (by omega)).2
        show V2.2 (z + 86) 0 = _
        rw [this, e3]
        exact bk_up2_self _ _ _ _
theorem pk_RA.fr {x : Int32} (h : pk_RA r V A) (f : pk_frR r (bk_wI V r 0 x) V') : pk_RA r V' A := by
  unfold pk_RA at *
  refine h.of (fun a q1 q2 q3 q4 q5 q6 => ?_) (fun k q0 q1 q2 q3 q4 _ => ?_) (fun a q1 q2 q3 q4 q5 => f.2.2 a q3 q4 q5)
  · rw [f.1 a (by omega) q3 q4 q5]
    exact bk_up2_off _ _ (by omega)
  · rw [f.2.1 k q1 q2 q3 q4]
    show bk_up2 V.1 r 0 x r k = _
    unfold bk_up2
    rw [if_neg (by omega)]
theorem pk_frR.out {x : Int32} (f : pk_frR r (bk_wI V r 0 x) V') : ∀ a, a < r ∨ r + 27 < a → V'.1 a = V.1 a ∧ V'.2 a = V.2 a := by
  intro a ha
  refine ⟨?_, f.2.2 a (by omega) (by omega) (by omega)⟩
  rw [f.1 a (by omega) (by omega) (by omega) (by omega)]
  exact bk_up2_off _ _ (by omega)
theorem pk_RO.fr {k : Nat} (h : pk_RA r V A) (f : pk_frR r (bk_wI V r 0 (nI k)) V') : pk_RO r V V' A k := by
  refine ⟨?_, f.out, h.fr f⟩
  show V'.1 r 0 = _
  rw [f.2.1 0 (by omega) (by omega) (by omega) (by omega)]
  exact bk_up2_self _ _ _ _
theorem pk_RO.fr2 {k : Nat} {x : Int32} (h : pk_RA r V A) (f : pk_frR r (bk_wI (bk_wI V r 0 x) r 0 (nI k)) V') : pk_RO r V V' A k := by
  refine pk_RO.fr h ?_
  have e : bk_wI (bk_wI V r 0 x) r 0 (nI k) = bk_wI V r 0 (nI k) := by
    unfold bk_wI bk_up2
    congr 1
    funext b j
    by_cases q : b = r ∧ j = 0
    · simp only [if_pos q]
    · simp only [if_neg q]
  rw [← e]
  exact f
end
