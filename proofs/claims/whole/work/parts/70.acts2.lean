/-! minutes, pump -/
section
variable {N z t u s tl r a b c d k n j h m l p q0 md wa : Nat} {Y Y' : bk_Lay} {V V' V2 W : bk_Val} {x y x1 x2 x3 x4 x5 : Int32} {D : Nat → Nat → Nat} {P : Nat → List Nat} {T w : Nat → Nat} {st st' : pk_St} {hs hs' : List pk_St} {img : Option (pk_St × List pk_St)} {pl : Option (Nat → Nat)} {fp r0 r1 : Int32} {A B : pk_A}
theorem pk_JR.hist (h : pk_JR r V D P T tl st hs img pl fp r0 r1) (f : pk_frK r V V') (h61 : bk_rI V' r 61 = nI hs'.length) (hH : pk_RH V' (r + 17) (r + 16) hs') : pk_JR r V' D P T tl st hs' img pl fp r0 r1 := by
  obtain ⟨h1, ⟨h2, h2'⟩, ⟨h3, h3a, h3b, h3c⟩, h4, h5, h6, h7, h8, h8a, h8b⟩ := h
  have g1 : ∀ a j, a ≠ r → a ≠ r + 17 → bk_rI V' a j = bk_rI V a j := fun a j q1 q2 => congrFun (f.1 a q1 q2) j
  have g2 : ∀ k, k ≠ 61 → bk_rI V' r k = bk_rI V r k := f.2.1
  have g3 : ∀ a j, a ≠ r + 16 → bk_rL V' a j = bk_rL V a j := fun a j q1 => congrFun (f.2.2 a q1) j
  refine ⟨h1.of (fun a x y => f.1 a (by omega) (by omega)) (fun k x y => f.2.1 k (by omega)), ⟨(g2 _ (by omega)).trans h2, fun j hj => (g1 _ _ (by omega) (by omega)).trans (h2' j hj)⟩, ⟨(g2 _ (by omega)).trans h3, (g2 _ (by omega)).trans h3a, (g2 _ (by omega)).trans h3b, fun p hp => (g3 _ _ (by omega)).trans (h3c p hp)⟩, h61, hH, ?_, ?_, (g2 _ (by omega)).trans h8, (g1 _ _ (by omega) (by omega)).trans h8a, (g1 _ _ (by omega) (by omega)).trans h8b⟩
  · cases img with
    | none => exact (g2 _ (by omega)).trans h6
    | some g =>
      obtain ⟨i1, i2, i3, i4, i5, i6, i7⟩ := h6
      exact ⟨(g2 _ (by omega)).trans i1, (g2 _ (by omega)).trans i2, (g2 _ (by omega)).trans i3, (g2 _ (by omega)).trans i4, (g2 _ (by omega)).trans i5, fun p hp => (g3 _ _ (by omega)).trans (i6 p hp), i7.of (f.1 _ (by omega) (by omega)) (f.2.2 _ (by omega))⟩
  · cases pl with
    | none => exact (g2 _ (by omega)).trans h7
    | some f' => exact ⟨(g2 _ (by omega)).trans h7.1, fun i hi => (g1 _ _ (by omega) (by omega)).trans (h7.2 i hi)⟩
theorem pk_JR.sta (h : pk_JR r V D P T tl st hs img pl fp r0 r1) (e1 : ∀ a, r < a → a ≤ r + 27 → a ≠ r + 18 → a ≠ r + 19 → a ≠ r + 24 → V'.1 a = V.1 a) (e2 : ∀ k, 0 < k → k ≠ 58 → k ≠ 59 → k ≠ 60 → k ≠ 71 → k ≠ 72 → k ≠ 73 → k ≠ 75 → V'.1 r k = V.1 r k) (e3 : ∀ a, r < a → a ≤ r + 27 → a ≠ r + 15 → a ≠ r + 20 → a ≠ r + 21 → a ≠ r + 23 → V'.2 a = V.2 a) (hn : pk_RS V' r st') : pk_JR r V' D P T tl st' hs img pl fp r0 r1 := by
  obtain ⟨h1, ⟨h2, h2'⟩, -, h4, h5, h6, h7, h8, h8a, h8b⟩ := h
  have g1 : ∀ a j, r < a → a ≤ r + 27 → a ≠ r + 18 → a ≠ r + 19 → a ≠ r + 24 → bk_rI V' a j = bk_rI V a j := fun a j q1 q2 q3 q4 q5 => congrFun (e1 a q1 q2 q3 q4 q5) j
  have g2 : ∀ k, 0 < k → k ≠ 58 → k ≠ 59 → k ≠ 60 → k ≠ 71 → k ≠ 72 → k ≠ 73 → k ≠ 75 → bk_rI V' r k = bk_rI V r k := e2
  have g3 : ∀ a j, r < a → a ≤ r + 27 → a ≠ r + 15 → a ≠ r + 20 → a ≠ r + 21 → a ≠ r + 23 → bk_rL V' a j = bk_rL V a j := fun a j q1 q2 q3 q4 q5 q6 => congrFun (e3 a q1 q2 q3 q4 q5 q6) j
  refine ⟨h1.of (fun a x y => e1 a x (by omega) (by omega) (by omega) (by omega)) (fun k x y => e2 k x (by omega) (by omega) (by omega) (by omega) (by omega) (by omega) (by omega)), ⟨(g2 _ (by omega) (by omega) (by omega) (by omega) (by omega) (by omega) (by omega) (by omega)).trans h2, fun j hj => (g1 _ _ (by omega) (by omega) (by omega) (by omega) (by omega)).trans (h2' j hj)⟩, hn, (g2 _ (by omega) (by omega) (by omega) (by omega) (by omega) (by omega) (by omega) (by omega)).trans h4, h5.of (e1 _ (by omega) (by omega) (by omega) (by omega) (by omega)) (e3 _ (by omega) (by omega) (by omega) (by omega) (by omega) (by omega)), ?_, ?_, (g2 _ (by omega) (by omega) (by omega) (by omega) (by omega) (by omega) (by omega) (by omega)).trans h8, (g1 _ _ (by omega) (by omega) (by omega) (by omega) (by omega)).trans h8a, (g1 _ _ (by omega) (by omega) (by omega) (by omega) (by omega)).trans h8b⟩
  · cases img with
    | none => exact (g2 _ (by omega) (by omega) (by omega) (by omega) (by omega) (by omega) (by omega) (by omega)).trans h6
    | some g =>
      obtain ⟨i1, i2, i3, i4, i5, i6, i7⟩ := h6
      exact ⟨(g2 _ (by omega) (by omega) (by omega) (by omega) (by omega) (by omega) (by omega) (by omega)).trans i1, (g2 _ (by omega) (by omega) (by omega) (by omega) (by omega) (by omega) (by omega) (by omega)).trans i2, (g2 _ (by omega) (by omega) (by omega) (by omega) (by omega) (by omega) (by omega) (by omega)).trans i3, (g2 _ (by omega) (by omega) (by omega) (by omega) (by omega) (by omega) (by omega) (by omega)).trans i4, (g2 _ (by omega) (by omega) (by omega) (by omega) (by omega) (by omega) (by omega) (by omega)).trans i5, fun p hp => (g3 _ _ (by omega) (by omega) (by omega) (by omega) (by omega) (by omega)).trans (i6 p hp), i7.of (e1 _ (by omega) (by omega) (by omega) (by omega) (by omega)) (e3 _ (by omega) (by omega) (by omega) (by omega) (by omega) (by omega))⟩
  · cases pl with
    | none => exact (g2 _ (by omega) (by omega) (by omega) (by omega) (by omega) (by omega) (by omega) (by omega)).trans h7
    | some f => exact ⟨(g2 _ (by omega) (by omega) (by omega) (by omega) (by omega) (by omega) (by omega) (by omega)).trans h7.1, fun i hi => (g1 _ _ (by omega) (by omega) (by omega) (by omega) (by omega)).trans (h7.2 i hi)⟩
/-- the rows outside of the reference, and what was thrown -/
def pk_out0 (r : Nat) (V V' : bk_Val) : Prop := bk_rI V' r 0 = nI 0 ∧ ∀ a, a < r ∨ r + 27 < a → V'.1 a = V.1 a ∧ V'.2 a = V.2 a
theorem pk_out0.w0 : pk_out0 r V (bk_wI V r 0 (nI 0)) := ⟨pk_w0, fun a q => ⟨pk_rowI (by omega), rfl⟩⟩
theorem pk_out0.wI (h : pk_out0 r V V') (ha : r < a) (ha2 : a ≤ r + 27) : pk_out0 r V (bk_wI V' a k x) := ⟨by rw [pk_rI_ne (by omega)]; exact h.1, fun b q => ⟨(pk_rowI (by omega)).trans (h.2 b q).1, (h.2 b q).2⟩⟩
theorem pk_out0.wS (h : pk_out0 r V V') (hk : 0 < k) : pk_out0 r V (bk_wI V' r k x) := ⟨by rw [pk_rI_same, if_neg (by omega)]; exact h.1, fun b q => ⟨(pk_rowI (by omega)).trans (h.2 b q).1, (h.2 b q).2⟩⟩
theorem pk_out0.wL {w : Int64} (h : pk_out0 r V V') (ha : r < a) (ha2 : a ≤ r + 27) : pk_out0 r V (bk_wL V' a k w) := ⟨h.1, fun b q => ⟨(h.2 b q).1, (pk_rowL (by omega)).trans (h.2 b q).2⟩⟩
theorem pk_out0.fr (h : pk_out0 r V V') (f : pk_frR r V' V2) : pk_out0 r V V2 := ⟨(f.2.1 0 (by omega) (by omega) (by omega) (by omega)).trans h.1, fun a q => ⟨(f.1 a (by omega) (by omega) (by omega) (by omega)).trans (h.2 a q).1, (f.2.2 a (by omega) (by omega) (by omega)).trans (h.2 a q).2⟩⟩
theorem pk_out0.frK (h : pk_out0 r V V') (f : pk_frK r V' V2) : pk_out0 r V V2 := ⟨(f.2.1 0 (by omega)).trans h.1, fun a q => ⟨(f.1 a (by omega) (by omega)).trans (h.2 a q).1, (f.2.2 a (by omega)).trans (h.2 a q).2⟩⟩
theorem pk_JR.frr (h : pk_JR r V D P T tl st hs img pl fp r0 r1) (f : pk_frR r V V') : pk_JR r V' D P T tl st hs img pl fp r0 r1 := h.of (fun a q1 q2 q3 q4 q5 _ => f.1 a (by omega) q3 q4 q5) (fun k q0 q1 q2 q3 q4 _ => f.2.1 k q1 q2 q3 q4) (fun a q1 q2 q3 q4 q5 => f.2.2 a q3 q4 q5)
/-- a call that can't throw -/
theorem pk_stN {β : Type} {qR : Option (β × bk_Val)} {v : β} (hC : pk_CA z Y' V' B) (hB : pk_BA B) (hq : ∃ V2, qR = some (v, V2) ∧ pk_out0 (z + 58) V' V2 ∧ pk_RA (z + 58) V2 B) : bk_sh Y' (z + 58) = (1, 11) ∧ ∃ r2 V2, qR = some (r2, V2) ∧ v = r2 ∧ pk_IA z Y' V2 := by
  obtain ⟨V2, q1, q2, q3⟩ := hq
  exact ⟨hC.rf.1.1, v, V2, q1, rfl, pk_RO.I (k := 0) ⟨q2.1, q2.2, q3⟩ hC hB⟩
theorem pr_keepsJ (hN : 20000 ≤ N) (hS : pk_Rf Y r) (hR : pk_JR r V D P T tl st hs img pl fp r0 r1) (hl : hs.length ≤ 40) : ∃ V', q_X12_keeps N Y V r = some V' ∧ pk_JR r V' D P T tl st ((st :: hs).take 40) img pl fp r0 r1 ∧ pk_frK r V V' := by
  obtain ⟨V', e1, e2, e3, e4⟩ := pr_keeps (N := N) hN hS hR.2.2.1 hl hR.2.2.2.1 hR.2.2.2.2.1
  exact ⟨V', e1, hR.hist e4 e2 e3, e4⟩
/-- an act that is refused -/
theorem pc_refuse (hJ : pk_JC z Y V t u s D P T tl st hs img pl fp r0 r1) : q_X11_refuseAct N Y V z = some (-nI 1, bk_wI V z 14 (r1 + nI 1)) ∧ pk_CA z Y (bk_wI V z 14 (r1 + nI 1)) (D, P, T, tl, st, hs, img, pl, fp, r0, r1 + nI 1) ∧ pk_offR z V (bk_wI V z 14 (r1 + nI 1)) := by
  obtain ⟨hM, -⟩ := hJ.o
  have hn := hJ.ne
  have h14 := hJ.2.2.2.2.2.2.2.2.2.1.2.2
  refine ⟨?_, ⟨t, u, s, ?_⟩, fun a q1 q2 => ⟨pk_rowI (by omega), rfl⟩⟩
  · simp only [q_X11_refuseAct, hM, pk_ckT, eq_self, pk_letE, h14, pk_lit]
  · have hj := hJ.j0
    obtain ⟨g1, g2, g3, g4, ⟨g5, g5a⟩, g6, g7, g8, g9, ⟨g10, g10a, g10b⟩⟩ := hj
    have kp : pk_kp z Y V Y (bk_wI V z 14 (r1 + nI 1)) := ⟨Nat.le_refl _, fun a ha => ⟨rfl, rfl, pk_rowI (by have := ha.1; omega), rfl⟩⟩
    have sl : ∀ k, k ≠ 14 → bk_rI (bk_wI V z 14 (r1 + nI 1)) z k = bk_rI V z k := fun k q => pk_slot q
    refine pk_J0.jc ⟨g1, g2, g3, g4.of (fun a q1 q2 q3 => pk_rowI (by omega)), ⟨(pk_rI_ne (by omega)).trans g5, fun j hj => (pk_rI_ne (by omega)).trans (g5a j hj)⟩, g6.kp kp, (sl 8 (by omega)).trans g7, ?_, ?_, ⟨(sl 12 (by omega)).trans g10, (sl 13 (by omega)).trans g10a, by simp only [pk_rI_same, if_true]⟩⟩ (hJ.2.2.2.2.2.2.2.2.2.2.of rfl (fun a q1 q2 => ⟨pk_rowI (by omega), rfl⟩))
    · cases img with
      | none => exact g8
      | some g =>
        obtain ⟨s', i1, i2, i3⟩ := g8
        exact ⟨s', i1, i2.kp kp, (sl 10 (by omega)).trans i3⟩
    · cases pl with
      | none => exact (sl 11 (by omega)).trans g9
      | some f => exact ⟨(sl 11 (by omega)).trans g9.1, fun i hi => (pk_rI_ne (by omega)).trans (g9.2 i hi)⟩
theorem pr_refuse (hS : pk_Rf Y r) (hR : pk_JR r V D P T tl st hs img pl fp r0 r1) : q_X12_refuses N Y V r = some (-nI 1, bk_wI V (r + 7) 1 (r1 + nI 1)) ∧ pk_JR r (bk_wI V (r + 7) 1 (r1 + nI 1)) D P T tl st hs img pl fp r0 (r1 + nI 1) := by
  obtain ⟨h1, ⟨h2, h2'⟩, ⟨h3, h3a, h3b, h3c⟩, h4, h5, h6, h7, h8, h8a, h8b⟩ := hR
  have g1 : ∀ a j, a ≠ r + 7 → bk_rI (bk_wI V (r + 7) 1 (r1 + nI 1)) a j = bk_rI V a j := fun a j q => pk_rI_ne q
  refine ⟨?_, h1.of (fun a x y => pk_rowI (by omega)) (fun k x y => by rw [pk_rowI (by omega)]), ⟨(g1 _ _ (by omega)).trans h2, fun j hj => (g1 _ _ (by omega)).trans (h2' j hj)⟩, ⟨(g1 _ _ (by omega)).trans h3, (g1 _ _ (by omega)).trans h3a, (g1 _ _ (by omega)).trans h3b, h3c⟩, (g1 _ _ (by omega)).trans h4, h5.of (pk_rowI (by omega)) rfl, ?_, ?_, (g1 _ _ (by omega)).trans h8, ?_, ?_⟩
  · simp (disch := omega) only [q_X12_refuses, hS, pk_ckT, pk_bs, pk_letE, pk_bd2E, pk_bd3E, if_true, if_false, eq_self, not_true_eq_false, not_false_eq_true, true_and, and_true, Nat.not_lt_zero, Nat.zero_le, Nat.reduceEqDiff, Nat.reduceLT, Nat.reduceLeDiff, pk_ck, pk_lit, nI_add, pk_mul, nI_clamp, nI_leI, nI_ltI, nI_eq, pk_div, pk_remE, pk_inE, pk_sub, h8b]
  · cases img with
    | none => exact (g1 _ _ (by omega)).trans h6
    | some g =>
      obtain ⟨i1, i2, i3, i4, i5, i6, i7⟩ := h6
      exact ⟨(g1 _ _ (by omega)).trans i1, (g1 _ _ (by omega)).trans i2, (g1 _ _ (by omega)).trans i3, (g1 _ _ (by omega)).trans i4, (g1 _ _ (by omega)).trans i5, i6, i7.of (pk_rowI (by omega)) rfl⟩
  · cases pl with
    | none => exact (g1 _ _ (by omega)).trans h7
    | some f => exact ⟨(g1 _ _ (by omega)).trans h7.1, fun i hi => (g1 _ _ (by omega)).trans (h7.2 i hi)⟩
  · rw [pk_rI_same, if_neg (by omega)]; exact h8a
  · rw [pk_rI_same, if_pos rfl]
end
