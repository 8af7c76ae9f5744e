/-! the constructors: how the layout grows -/
def pk_LL (z : Nat) (Y : bk_Lay) (n : Nat) (S R : List (Nat × Nat × Nat)) : Prop := bk_sz Y = z + n ∧ (∀ e ∈ S, e.1 < n ∧ bk_sh Y (z + e.1) = e.2) ∧ (∀ e ∈ R, e.1 < n ∧ bk_rR Y (z + e.1) e.2.1 = some (z + e.2.2)) ∧ ∀ a k, (∀ e ∈ R, ¬ (a = z + e.1 ∧ k = e.2.1)) → bk_rR Y a k = none
def pk_zz (z n : Nat) (V : bk_Val) : Prop := ∀ a, z + n ≤ a → V.1 a = (fun _ => 0) ∧ V.2 a = (fun _ => 0)
def pk_wp (X : Option (bk_Lay × bk_Val)) (Q : bk_Lay → bk_Val → Prop) : Prop := ∃ Y V, X = some (Y, V) ∧ Q Y V
section
variable {N z t u s r a b c d k n m j : Nat} {Y Y' : bk_Lay} {V V' : bk_Val} {S R : List (Nat × Nat × Nat)} {sh sh' : Nat × Nat} {Q : bk_Lay → bk_Val → Prop} {x : Int32}
theorem pk_LL.shp (h : pk_LL z Y n S R) (he : (a, sh) ∈ S) : bk_sh Y (z + a) = sh := (h.2.1 (a, sh) he).2
theorem pk_LL.rr (h : pk_LL z Y n S R) (he : (a, k, b) ∈ R) : bk_rR Y (z + a) k = some (z + b) := (h.2.2.1 (a, k, b) he).2
theorem pk_LL.nw (h : pk_LL z Y n S R) : pk_LL z (bk_nw Y sh) (n + 1) ((n, sh) :: S) R := by
  obtain ⟨h1, h2, h3, h4⟩ := h
  refine ⟨by rw [pk_sz_nw, h1]; omega, fun e he => ?_, fun e he => ?_, fun a k q => ?_⟩
  · rcases List.mem_cons.mp he with g | g
    · subst g
      exact ⟨by show n < n + 1; omega, by rw [pk_sh_nw, if_pos (by rw [h1])]⟩
    · have := h2 e g
      refine ⟨by omega, ?_⟩
      rw [pk_sh_nw, if_neg (by rw [h1]; omega)]
      exact this.2
  · have := h3 e he
    refine ⟨by omega, ?_⟩
    rw [pk_rR_nw, if_neg (by rw [h1]; omega)]
    exact this.2
  · rw [pk_rR_nw]
    split
    · rfl
    · exact h4 a k q
theorem pk_LL.wR (h : pk_LL z Y n S R) (ha : a < n) (hf : ∀ e ∈ R, ¬ (e.1 = a ∧ e.2.1 = k)) : pk_LL z (bk_wR Y (z + a) k (some (z + b))) n S ((a, k, b) :: R) := by
  obtain ⟨h1, h2, h3, h4⟩ := h
  refine ⟨h1, h2, fun e he => ?_, fun a' k' q => ?_⟩
  · rcases List.mem_cons.mp he with g | g
    · subst g
      exact ⟨ha, by rw [pk_rR_wR, if_pos ⟨rfl, rfl⟩]⟩
    · refine ⟨(h3 e g).1, ?_⟩
      rw [pk_rR_wR, if_neg (fun q => hf e g ⟨by omega, q.2⟩)]
      exact (h3 e g).2
  · rw [pk_rR_wR, if_neg (fun g => q (a, k, b) List.mem_cons_self g)]
    exact h4 a' k' (fun e he => q e (List.mem_cons_of_mem _ he))
theorem pk_LL.wN (h : pk_LL z Y n S R) (hf : ∀ e ∈ R, ¬ (e.1 = a ∧ e.2.1 = k)) : pk_LL z (bk_wR Y (z + a) k none) n S R := by
  obtain ⟨h1, h2, h3, h4⟩ := h
  refine ⟨h1, h2, fun e he => ⟨(h3 e he).1, ?_⟩, fun a' k' q => ?_⟩
  · rw [pk_rR_wR, if_neg (fun q => hf e he ⟨by omega, q.2⟩)]
    exact (h3 e he).2
  · rw [pk_rR_wR]
    split
    · rfl
    · exact h4 a' k' q
theorem pk_nzE (h : V.1 (bk_sz Y) = (fun _ => 0) ∧ V.2 (bk_sz Y) = (fun _ => 0)) : bk_nz Y V = V := by
  refine Prod.ext ?_ ?_
  · funext a
    by_cases q : a = bk_sz Y
    · rw [q, h.1]
      show va_up V.1 Y.2.2 (fun _ => 0) (bk_sz Y) = _
      unfold va_up
      exact if_pos rfl
    · exact (pk_rowZ q).1
  · funext a
    by_cases q : a = bk_sz Y
    · rw [q, h.2]
      show va_up V.2 Y.2.2 (fun _ => 0) (bk_sz Y) = _
      unfold va_up
      exact if_pos rfl
    · exact (pk_rowZ q).2
/-- a cell is made -/
theorem in_nw {F : bk_Lay → bk_Val → Nat → Option (bk_Lay × bk_Val)} (hL : pk_LL z Y n S R) (hz : pk_zz z n V) (hm : m = n + 1) (hs : sh = sh') (H : ∀ Y', pk_LL z Y' m ((n, sh') :: S) R → pk_zz z m V → pk_wp (F Y' V (z + n)) Q) : pk_wp (bk_let (bk_nw Y sh) fun Y' => bk_let (bk_nz Y V) fun V' => bk_let (bk_sz Y) fun b => F Y' V' b) Q := by
  subst hm
  subst hs
  rw [pk_letE, pk_letE, pk_letE, pk_nzE (hz _ (by rw [hL.1]; exact Nat.le_refl _)), hL.1]
  exact H _ hL.nw (fun a q => hz a (by omega))
theorem in_wR {F : bk_Lay → Option (bk_Lay × bk_Val)} (hL : pk_LL z Y n S R) (ha : a < n) (hf : ∀ e ∈ R, ¬ (e.1 = a ∧ e.2.1 = k)) (H : ∀ Y', pk_LL z Y' n S ((a, k, b) :: R) → pk_wp (F Y') Q) : pk_wp (bk_let (bk_wR Y (z + a) k (some (z + b))) F) Q := by
  rw [pk_letE]
  exact H _ (hL.wR ha hf)
theorem in_ck {X : Option (bk_Lay × bk_Val)} (hL : pk_LL z Y n S R) (he : (a, sh) ∈ S) (H : pk_wp X Q) : pk_wp (bk_ck (bk_sh Y (z + a) = sh) X) Q := by
  rw [pk_ck (hL.shp he)]
  exact H
theorem in_rr {F : Nat → Option (bk_Lay × bk_Val)} (hL : pk_LL z Y n S R) (he : (a, k, b) ∈ R) (H : pk_wp (F (z + b)) Q) : pk_wp ((bk_rR Y (z + a) k).bind F) Q := by
  rw [hL.rr he, pk_bs]
  exact H
theorem in_bd {X : Option (bk_Lay × bk_Val)} {F : bk_Lay → bk_Val → Option (bk_Lay × bk_Val)} (H : pk_wp X (fun Y V => pk_wp (F Y V) Q)) : pk_wp (bk_bd2 X F) Q := by
  obtain ⟨Y, V, h1, h2⟩ := H
  rw [h1, pk_bd2E]
  exact h2
theorem in_end (H : Q Y V) : pk_wp (some (Y, V)) Q := ⟨Y, V, rfl, H⟩
theorem pk_Sd.nw (hS : pk_Sd Y u) (hu : u + 22 ≤ bk_sz Y) : pk_Sd (bk_nw Y sh) u := by
  have k1 : ∀ a, a < u + 22 → bk_sh (bk_nw Y sh) a = bk_sh Y a := fun a ha => by rw [pk_sh_nw, if_neg (by omega)]
  have k2 : ∀ a k, a < u + 22 → bk_rR (bk_nw Y sh) a k = bk_rR Y a k := fun a k ha => by rw [pk_rR_nw, if_neg (by omega)]
  unfold pk_Sd
  simp (disch := omega) only [k1, k2, hS, and_self]
/-- a new state of the class, anywhere -/
theorem pc_ofNewG {D : Nat → Nat → Nat} {P : Nat → List Nat} (hN : 1000 ≤ N) (hS : pk_Sd Y u) (hu : u + 22 ≤ bk_sz Y) (hT : pk_CT V u D P) (hB : pk_DB D P) : ∃ V', q_X6_ofNew N Y V u = some (bk_sz Y, bk_wR (bk_wR (bk_nw (bk_nw Y (1, 5)) (3, 4 * D 0 0)) (bk_sz Y) 0 none) (bk_sz Y) 4 (some (bk_sz Y + 1)), V') ∧ (∀ a, a ≠ bk_sz Y → a ≠ bk_sz Y + 1 → V'.1 a = V.1 a ∧ V'.2 a = V.2 a) ∧ bk_rI V' (bk_sz Y) 1 = nI (1000 * D 0 4) ∧ bk_rI V' (bk_sz Y) 2 = nI 0 ∧ bk_rI V' (bk_sz Y) 3 = nI 0 ∧ ∀ j, j < 4 * D 0 0 → bk_rL V' (bk_sz Y + 1) j = lN (sp_w0 D j) := by
  have d0 := hB.1
  have z2 : bk_sz (bk_nw Y (1, 5)) = bk_sz Y + 1 := pk_sz_nw
  have hS2 : pk_Sd (bk_nw Y (1, 5)) u := hS.nw hu
  have hS3 : pk_Sd (bk_nw (bk_nw Y (1, 5)) (3, 4 * D 0 0)) u := pk_Sd.nw hS2 (by rw [z2]; omega)
  have hT2 : pk_CT (bk_nz Y V) u D P := hT.of (fun a q1 q2 _ => (pk_rowZ (by omega)).1)
  have hT3 : pk_CT (bk_nz (bk_nw Y (1, 5)) (bk_nz Y V)) u D P := hT2.of (fun a q1 q2 _ => (pk_rowZ (by rw [z2]; omega)).1)
  obtain ⟨V1, a1, a2, a3, a4⟩ := pc_oc11 (N := N) (b := bk_sz Y + 1) hN hS3 hB (by rw [pk_sh_nw, if_pos (by rw [z2])]) (4 * D 0 0) 0 N (bk_nz (bk_nw Y (1, 5)) (bk_nz Y V)) (by omega) (by omega) hT3 (fun j hj => by omega) (fun j _ => by rw [pk_rL_nz, if_pos (by rw [z2])]; rfl)
  refine ⟨bk_wI (bk_wI (bk_wI V1 (bk_sz Y) 1 (nI (1000 * D 0 4))) (bk_sz Y) 2 (nI 0)) (bk_sz Y) 3 (nI 0), ?_, fun a q1 q2 => ⟨?_, ?_⟩, ?_, ?_, ?_, a4⟩
  · have e1 : q_X5_fullPressure N (bk_nw Y (1, 5)) (bk_nz Y V) u = some (nI (1000 * D 0 4)) := by
      have e04 : bk_rI (bk_nz Y V) (u + 1) 4 = nI (D 0 4) := hT2.1 4 (by omega)
      unfold q_X5_fullPressure
      simp (disch := omega) only [hS2, pk_ckT, pk_bs, pk_letE, pk_bd2E, pk_bd3E, if_true, if_false, eq_self, not_true_eq_false, not_false_eq_true, true_and, and_true, Nat.not_lt_zero, Nat.zero_le, Nat.reduceEqDiff, Nat.reduceLT, Nat.reduceLeDiff, pk_ck, pk_lit, nI_clamp, pk_inE, e04, pk_mul]
    have e2 : q_X0_ofCauses N (bk_nw Y (1, 5)) (bk_nz Y V) u = some (bk_sz Y + 1, bk_nw (bk_nw Y (1, 5)) (3, 4 * D 0 0), V1) := by
      unfold q_X0_ofCauses
      have ei := pc_inches (N := N) hS2 hT2
      have e4 : (4 : Int32) * nI (D 0 0) = nI (4 * D 0 0) := pk_mul 4 _
      rw [pk_ck hS2.1, ei, pk_bs, e4, nI_clamp (by omega), pk_ck ⟨show ¬ nI (4 * D 0 0) < nI 0 by rw [nI_ltI (by omega) (by omega)]; omega, by omega⟩, pk_letE, pk_letE, pk_letE, z2]
      exact a1
    unfold q_X6_ofNew
    rw [pk_letE, pk_letE, pk_letE, pk_ck hS2.1, e1, pk_bs, e2, pk_bd3E]
    unfold q_X6_init_n
    rw [pk_ck (by rw [pk_sh_nw, if_neg (by rw [z2]; omega), pk_sh_nw, if_pos rfl])]
    rfl
  · rw [pk_rowI q1, pk_rowI q1, pk_rowI q1, a2, (pk_rowZ (by rw [z2]; exact q2)).1, (pk_rowZ q1).1]
  · show V1.2 a = _
    rw [a3 a q2, (pk_rowZ (by rw [z2]; exact q2)).2, (pk_rowZ q1).2]
  · rw [pk_rI_same, if_neg (by omega), pk_rI_same, if_neg (by omega), pk_rI_same, if_pos rfl]
  · rw [pk_rI_same, if_neg (by omega), pk_rI_same, if_pos rfl]
  · rw [pk_rI_same, if_pos rfl]
end
