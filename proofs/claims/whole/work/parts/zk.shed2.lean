/-! shed: the reference's end, the class's end, both -/
section
variable {N z t u s tl r a b c d k n j h m l p q q0 md wa s' i f gg v S L g lo hi w e : Nat} {Y Y1 Y2 Y' : bk_Lay} {V V' V1 V2 V8 : bk_Val} {x y x1 x2 x3 x4 x5 ee : Int32} {T T' R G In : Nat → Nat} {D D' : Nat → Nat → Nat} {P P' : Nat → List Nat} {K : List Nat} {o : pk_O} {st st' : pk_St} {hs hs' : List pk_St} {img img' : Option (pk_St × List pk_St)} {pl : Option (Nat → Nat)} {fp r0 r1 : Int32}
theorem pr_169F (hS : pk_Rf Y r) (h : pk_FR r V k e) : q_X12_shed_169 N Y V r = some (nI k, bk_wI V (r + 7) 0 (bk_rI V (r + 7) 0 + nI 1)) := by
  unfold q_X12_shed_169
  rw [pk_ck hS.1, pr_goodN hS h, pk_bs, if_pos (show nI 0 = (0 : Int32) from rfl)]
  have e1 : bk_rI (bk_wI V (r + 7) 0 (bk_rI V (r + 7) 0 + nI 1)) r 21 = nI k := (pk_rI_ne (by omega)).trans h.1
  simp (disch := omega) only [hS, pk_ckT, pk_bs, pk_letE, pk_bd2E, pk_bd3E, if_true, if_false, eq_self, not_true_eq_false, not_false_eq_true, true_and, and_true, Nat.not_lt_zero, Nat.zero_le, Nat.reduceEqDiff, Nat.reduceLT, Nat.reduceLeDiff, pk_ck, pk_lit, nI_clamp, pk_inE, e1]
theorem tq_gd {X K1 : List Nat} : ∀ (K0 : List Nat), i < X.length → (K0 ++ X ++ K1).getD (K0.length + i) 0 = X.getD i 0
  | [], hi => by
    rw [List.nil_append, List.length_nil, Nat.zero_add, List.getD_eq_getElem?_getD, List.getD_eq_getElem?_getD, List.getElem?_append_left hi]
  | x :: K0, hi => by
    rw [List.length_cons, show K0.length + 1 + i = (K0.length + i) + 1 by omega]
    exact tq_gd K0 hi
theorem pk_RR.mk (h : pk_KR V r P K w) (hK : ∀ i, i < K.length → bk_rI V (r + 12) i = nI (K.getD i 0)) (hl : K.length ≤ 1400) (hc : ∀ j, j < 1900 → bk_rI V' (r + 5) j = bk_rI V (r + 12) j) (hs : bk_rI V' r s = bk_rI V r (43 + w)) : pk_RR V' r s w (P w) := by
  rcases h with ⟨a, b⟩ | ⟨a, K0, K1, b, c⟩
  · exact Or.inl ⟨a, hs.trans b⟩
  · have len : K.length = K0.length + (tq_rc w (P w) ++ [0]).length + K1.length := by rw [b, List.length_append, List.length_append]
    refine Or.inr ⟨a, K0.length, by omega, hs.trans c, pk_RC.mk (P w) K0.length (fun i hi => ?_) (by omega)⟩
    rw [hc _ (by omega), hK _ (by omega), b, tq_gd K0 hi]
theorem pr_169Y (hN : 20000 ≤ N) (hS : pk_Rf Y r) (hg : pk_gd r V) (hT : pk_NT V r D) (hK : pk_KK V r P K) (hl : K.length ≤ 1400) (hB : pk_DB D P) : ∃ V', q_X12_shed_169 N Y V r = some (nI 0, V') ∧ pk_RT V' r D P ∧ pk_RS V' r (1000 * D 0 4, 0, 0, sp_w0 D) ∧ bk_rI V' r 61 = nI 0 ∧ bk_rI V' r 69 = nI 0 ∧ bk_rI V' r 77 = nI 0 ∧ (∀ a, a ≠ r → (a < r + 1 ∨ r + 5 < a) → V'.1 a = V.1 a) ∧ (∀ k, k = 0 ∨ (13 < k ∧ k < 58) → bk_rI V' r k = bk_rI V r k) ∧ ∀ a, a ≠ r + 15 → V'.2 a = V.2 a := by
  obtain ⟨n1, n2, n3, n5, n7⟩ := pk_NT_iff.mp hT
  obtain ⟨k1, k2, k3, k4⟩ := hK
  generalize hW : bk_wI (bk_wI (bk_wI (bk_wI (bk_wI (bk_wI (bk_wI (bk_wI (bk_wI (bk_wI (bk_wI (bk_wI (bk_wI V r 1 (bk_rI V r 32)) r 2 (bk_rI V r 33)) r 3 (bk_rI V r 34)) r 4 (bk_rI V r 35)) r 5 (bk_rI V r 36)) r 6 (bk_rI V r 37)) r 7 (bk_rI V r 38)) r 8 (bk_rI V r 39)) r 9 (bk_rI V r 40)) r 10 (bk_rI V r 41)) r 11 (bk_rI V r 42)) r 12 (bk_rI V r 43)) r 13 (bk_rI V r 44) = W
  have w0 : ∀ a, a ≠ r → W.1 a = V.1 a := fun a ha => by
    rw [← hW, pk_rowI ha, pk_rowI ha, pk_rowI ha, pk_rowI ha, pk_rowI ha, pk_rowI ha, pk_rowI ha, pk_rowI ha, pk_rowI ha, pk_rowI ha, pk_rowI ha, pk_rowI ha, pk_rowI ha]
  have wl : W.2 = V.2 := by rw [← hW]; rfl
  have ws : ∀ k, k = 0 ∨ 13 < k → bk_rI W r k = bk_rI V r k := fun k hk => by
    rw [← hW, pk_rI_same, if_neg (by omega), pk_rI_same, if_neg (by omega), pk_rI_same, if_neg (by omega), pk_rI_same, if_neg (by omega), pk_rI_same, if_neg (by omega), pk_rI_same, if_neg (by omega), pk_rI_same, if_neg (by omega), pk_rI_same, if_neg (by omega), pk_rI_same, if_neg (by omega), pk_rI_same, if_neg (by omega), pk_rI_same, if_neg (by omega), pk_rI_same, if_neg (by omega), pk_rI_same, if_neg (by omega)]
  have wt : ∀ k, k < 13 → bk_rI W r (1 + k) = bk_rI V r (32 + k) := fun k hk => by
    rw [← hW]
    rcases (show k = 0 ∨ k = 1 ∨ k = 2 ∨ k = 3 ∨ k = 4 ∨ k = 5 ∨ k = 6 ∨ k = 7 ∨ k = 8 ∨ k = 9 ∨ k = 10 ∨ k = 11 ∨ k = 12 by omega) with g | g | g | g | g | g | g | g | g | g | g | g | g <;> subst g <;> simp (disch := omega) only [pk_rI_same, pk_rI_ne, pk_rI_wL, pk_rL_wI, pk_rL_same, pk_rL_ne, pk_ckT, pk_bs, pk_letE, pk_bd2E, pk_bd3E, if_true, if_false, eq_self, not_true_eq_false, not_false_eq_true, true_and, and_true, Nat.not_lt_zero, Nat.zero_le, Nat.reduceEqDiff, Nat.reduceLT, Nat.reduceLeDiff, pk_ck, Nat.reduceAdd]
  obtain ⟨Va, a1, a2, a3, a4⟩ := pr_copiesI (N := N) (Y := Y) (V := W) (r := r) (a := r + 8) (b := r + 1) (n := 24) hN (by simp only [hS]) (by simp only [hS]) (by omega) (by omega)
  obtain ⟨Vb, b1, b2, b3, b4⟩ := pr_copiesI (N := N) (Y := Y) (V := Va) (r := r) (a := r + 9) (b := r + 2) (n := 4) hN (by simp only [hS]) (by simp only [hS]) (by omega) (by omega)
  obtain ⟨Vc, c1, c2, c3, c4⟩ := pr_copiesI (N := N) (Y := Y) (V := Vb) (r := r) (a := r + 10) (b := r + 3) (n := 12) hN (by simp only [hS]) (by simp only [hS]) (by omega) (by omega)
  obtain ⟨Vd, d1, d2, d3, d4⟩ := pr_copiesI (N := N) (Y := Y) (V := Vc) (r := r) (a := r + 11) (b := r + 4) (n := 32) hN (by simp only [hS]) (by simp only [hS]) (by omega) (by omega)
  obtain ⟨Ve, e1, e2, e3, e4⟩ := pr_copiesI (N := N) (Y := Y) (V := Vd) (r := r) (a := r + 12) (b := r + 5) (n := 1900) hN (by simp only [hS]) (by simp only [hS]) (by omega) (by omega)
  have er : ∀ a, (a < r + 1 ∨ r + 5 < a) → Ve.1 a = W.1 a := fun a ha => by rw [e3 a (by omega), d3 a (by omega), c3 a (by omega), b3 a (by omega), a3 a (by omega)]
  have el : Ve.2 = V.2 := by rw [e2, d2, c2, b2, a2, wl]
  have et : ∀ k, k < 13 → bk_rI Ve r (1 + k) = bk_rI V r (32 + k) := fun k hk => (congrFun (er r (by omega)) (1 + k)).trans (wt k hk)
  have f1 : ∀ j, j < 24 → bk_rI Ve (r + 1) j = bk_rI V (r + 8) j := fun j hj => by
    rw [show bk_rI Ve (r + 1) j = bk_rI Va (r + 1) j from congrFun (show Ve.1 (r + 1) = Va.1 (r + 1) by rw [e3 _ (by omega), d3 _ (by omega), c3 _ (by omega), b3 _ (by omega)]) j, a4 j hj]
    exact congrFun (w0 (r + 8) (by omega)) j
  have f2 : ∀ j, j < 4 → bk_rI Ve (r + 2) j = bk_rI V (r + 9) j := fun j hj => by
    rw [show bk_rI Ve (r + 2) j = bk_rI Vb (r + 2) j from congrFun (show Ve.1 (r + 2) = Vb.1 (r + 2) by rw [e3 _ (by omega), d3 _ (by omega), c3 _ (by omega)]) j, b4 j hj, show bk_rI Va (r + 9) j = bk_rI W (r + 9) j from congrFun (a3 _ (by omega)) j]
    exact congrFun (w0 (r + 9) (by omega)) j
  have f3 : ∀ j, j < 12 → bk_rI Ve (r + 3) j = bk_rI V (r + 10) j := fun j hj => by
    rw [show bk_rI Ve (r + 3) j = bk_rI Vc (r + 3) j from congrFun (show Ve.1 (r + 3) = Vc.1 (r + 3) by rw [e3 _ (by omega), d3 _ (by omega)]) j, c4 j hj, show bk_rI Vb (r + 10) j = bk_rI W (r + 10) j from congrFun (show Vb.1 (r + 10) = W.1 (r + 10) by rw [b3 _ (by omega), a3 _ (by omega)]) j]
    exact congrFun (w0 (r + 10) (by omega)) j
  have f4 : ∀ j, j < 32 → bk_rI Ve (r + 4) j = bk_rI V (r + 11) j := fun j hj => by
    rw [show bk_rI Ve (r + 4) j = bk_rI Vd (r + 4) j from congrFun (show Ve.1 (r + 4) = Vd.1 (r + 4) by rw [e3 _ (by omega)]) j, d4 j hj, show bk_rI Vc (r + 11) j = bk_rI W (r + 11) j from congrFun (show Vc.1 (r + 11) = W.1 (r + 11) by rw [c3 _ (by omega), b3 _ (by omega), a3 _ (by omega)]) j]
    exact congrFun (w0 (r + 11) (by omega)) j
  have f5 : ∀ j, j < 1900 → bk_rI Ve (r + 5) j = bk_rI V (r + 12) j := fun j hj => by
    rw [e4 j hj, show bk_rI Vd (r + 12) j = bk_rI W (r + 12) j from congrFun (show Vd.1 (r + 12) = W.1 (r + 12) by rw [d3 _ (by omega), c3 _ (by omega), b3 _ (by omega), a3 _ (by omega)]) j]
    exact congrFun (w0 (r + 12) (by omega)) j
  have d2' := (pk_DB_iff.mp hB).2.2.1.1
  have d7' := (pk_DB_iff.mp hB).2.2.2.1.1
  have d10' := (pk_DB_iff.mp hB).2.2.2.2.1.1
  have rt : pk_RT Ve r D P := by
    refine ⟨⟨(et 0 (by omega)).trans (n1 0 (by omega)), (et 1 (by omega)).trans (n1 1 (by omega)), (et 2 (by omega)).trans (n1 2 (by omega)), (et 3 (by omega)).trans (n1 3 (by omega)), (et 4 (by omega)).trans (n1 4 (by omega)), (et 5 (by omega)).trans (n1 5 (by omega)), (et 6 (by omega)).trans (n1 6 (by omega)), (et 7 (by omega)).trans (n1 7 (by omega)), (et 8 (by omega)).trans n3.1, (et 9 (by omega)).trans n5.1, (et 10 (by omega)).trans n7.1⟩, fun k hk => (f2 k hk).trans (n2 k hk), fun h hh => ?_, fun k hk => ?_, fun k hk => ?_, pk_RR.mk k3 k2 hl f5 (et 11 (by omega)), pk_RR.mk k4 k2 hl f5 (et 12 (by omega))⟩
    · rw [f1 _ (by omega), f1 _ (by omega), f1 _ (by omega), f1 _ (by omega)]; exact n3.2 h hh
    · rw [f3 _ (by omega), f3 _ (by omega)]; exact n5.2 k hk
    · rw [f4 _ (by omega), f4 _ (by omega), f4 _ (by omega), f4 _ (by omega)]; exact n7.2 k hk
  obtain ⟨Vf, g1, g2, g3, g4, g5, g6⟩ := pr_anew (N := N) (by omega) hS rt hB
  have hS12 : pk_RT (bk_wI (bk_wI Vf r 69 (nI 0)) r 77 (nI 0)) r D P := rt.of (fun a q1 q2 => by rw [pk_rowI (by omega), pk_rowI (by omega), g4 a (by omega)]) (fun k q1 q2 => by rw [pk_slot (by omega), pk_slot (by omega)]; exact g5 k (by omega))
  obtain ⟨s1, s2, s3, s4⟩ := g2
  refine ⟨bk_wI (bk_wI Vf r 69 (nI 0)) r 77 (nI 0), ?_, hS12, ⟨?_, ?_, ?_, s4⟩, ?_, ?_, ?_, fun a q1 q2 => ?_, fun k q => ?_, fun a q => ?_⟩
  · unfold q_X12_shed_169
    rw [pk_ck hS.1, pr_goodY hS hg, pk_bs, if_neg pk_n10]
    simp (disch := omega) only [hS, pk_ckT, pk_bs, pk_letE, pk_bd2E, pk_bd3E, if_true, if_false, eq_self, not_true_eq_false, not_false_eq_true, true_and, and_true, Nat.not_lt_zero, Nat.zero_le, Nat.reduceEqDiff, Nat.reduceLT, Nat.reduceLeDiff, pk_ck, pk_rI_same, pk_rI_ne, pk_rI_wL, pk_rL_wI, pk_rL_same, pk_rL_ne, hW, a1, b1, c1, d1, e1, g1, pk_lit]
  · rw [pk_rI_same, if_neg (by omega), pk_rI_same, if_neg (by omega)]; exact s1
  · rw [pk_rI_same, if_neg (by omega), pk_rI_same, if_neg (by omega)]; exact s2
  · rw [pk_rI_same, if_neg (by omega), pk_rI_same, if_neg (by omega)]; exact s3
  · rw [pk_rI_same, if_neg (by omega), pk_rI_same, if_neg (by omega)]; exact g3
  · rw [pk_rI_same, if_neg (by omega), pk_rI_same, if_pos rfl]
  · rw [pk_rI_same, if_pos rfl]
  · rw [pk_rowI q1, pk_rowI q1, g4 a q1, er a q2, w0 a q1]
  · rw [pk_rI_same, if_neg (by omega), pk_rI_same, if_neg (by omega), g5 k (by omega), show bk_rI Ve r k = bk_rI W r k from congrFun (er r (by omega)) k]
    exact ws k (by omega)
  · show Vf.2 a = _
    rw [g6 a q, el]
end
