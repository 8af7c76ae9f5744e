/-! listen, thorn -/
section
variable {N z t u s tl r a b c d k n j h m l p q q0 md wa s' i f e gg v : Nat} {Y Y' : bk_Lay} {V V' V2 W : bk_Val} {x y x1 x2 x3 x4 x5 : Int32} {w1 w2 : Int64} {D : Nat → Nat → Nat} {P : Nat → List Nat} {T T' w R G : Nat → Nat} {st st' g : pk_St} {hs hs' : List pk_St} {img img' : Option (pk_St × List pk_St)} {pl : Option (Nat → Nat)} {fp r0 r1 : Int32} {A B : pk_A}
/-- an act that is refused: both -/
theorem pk_rfs {qC : Option (Int32 × bk_Lay × bk_Val)} {qR : bk_Lay → bk_Val → Option (Int32 × bk_Val)} (hJ : pk_JC z Y V t u s D P T tl st hs img pl fp r0 r1) (hRA : pk_RA (z + 58) V (D, P, T, tl, st, hs, img, pl, fp, r0, r1)) (hB : pk_JB D P T tl st hs img) (g1 : qC = bk_bd2 (q_X11_refuseAct N Y V z) fun r V => some (r, Y, V)) (g2 : ∀ V1, pk_Rf Y (z + 58) → pk_JR (z + 58) (bk_wI V1 (z + 58) 0 (nI 0)) D P T tl st hs img pl fp r0 r1 → qR Y V1 = bk_bd2 (q_X12_refuses N Y (bk_wI V1 (z + 58) 0 (nI 0)) (z + 58)) fun r V => some (r, V)) : ∃ (r1 : Int32) (Y1 : bk_Lay) (V1 : bk_Val), qC = some (r1, Y1, V1) ∧ bk_sh Y1 (z + 58) = (1, 11) ∧ ∃ (r2 : Int32) (V2 : bk_Val), qR Y1 V1 = some (r2, V2) ∧ r1 = r2 ∧ pk_IA z Y1 V2 := by
  obtain ⟨e1, e2, e3⟩ := pc_refuse (N := N) hJ
  have hR1 : pk_JR (z + 58) _ D P T tl st hs img pl fp r0 r1 := hRA.off e3
  have hRf := e2.rf.1
  obtain ⟨e4, e5⟩ := pr_refuse (N := N) hRf hR1.w0 (V := bk_wI (bk_wI V z 14 (r1 + nI 1)) (z + 58) 0 (nI 0))
  refine ⟨-nI 1, Y, bk_wI V z 14 (r1 + nI 1), ?_, pk_stN e2 hB ⟨_, ?_, pk_out0.w0.wI (a := z + 58 + 7) (by omega) (by omega), e5⟩⟩
  · rw [g1, e1, pk_bd2E]
  · rw [g2 _ hRf hR1.w0, e4, pk_bd2E]
/-- an act that writes weights: both -/
theorem pk_wrs {qC : Option (Int32 × bk_Lay × bk_Val)} {qR : bk_Lay → bk_Val → Option (Int32 × bk_Val)} (hN : 20000 ≤ N) (hJ : pk_JC z Y V t u s D P T tl st hs img pl fp r0 r1) (hRA : pk_RA (z + 58) V (D, P, T, tl, st, hs, img, pl, fp, r0, r1)) (hB : pk_JB D P T tl st hs img) (hG : ∀ p, G p ≤ 1000000000000000) (hGz : ∀ p, 4 * D 0 0 ≤ p → G p = 0)
    (hc : ∀ wa, bk_rR Y s 4 = some wa → bk_sh Y wa = (3, 4 * D 0 0) → pk_J0 z (bk_nw Y (3, 4 * D 0 0)) (bk_nc Y V wa) t u s D P T tl st hs img pl fp r0 r1 → bk_sh (bk_nw Y (3, 4 * D 0 0)) (bk_sz Y) = (3, 4 * D 0 0) → (∀ p, p < 4 * D 0 0 → bk_rL (bk_nc Y V wa) (bk_sz Y) p = lN (st.2.2.2 p)) → ∃ V3, qC = bk_bd3 (q_X11_believe N (bk_nw Y (3, 4 * D 0 0)) V3 z (bk_sz Y)) (fun a b c => some (a, b, c)) ∧ V3.1 = (bk_nc Y V wa).1 ∧ (∀ b, b ≠ bk_sz Y → V3.2 b = (bk_nc Y V wa).2 b) ∧ ∀ p, p < 4 * D 0 0 → bk_rL V3 (bk_sz Y) p = lN (G p))
    (hr : ∀ Y' V' V4, pk_Rf Y' (z + 58) → pk_JR (z + 58) (bk_wI V' (z + 58) 0 (nI 0)) D P T tl st hs img pl fp r0 r1 → q_X12_keeps N Y' (bk_wI V' (z + 58) 0 (nI 0)) (z + 58) = some V4 → pk_JR (z + 58) V4 D P T tl st ((st :: hs).take 40) img pl fp r0 r1 → ∃ V5, qR Y' V' = some (nI (sp_best G (4 * D 0 0)), V5) ∧ V5.1 = V4.1 ∧ (∀ c, c ≠ z + 58 + 15 → V5.2 c = V4.2 c) ∧ ∀ p, p < 336 → bk_rL V5 (z + 58 + 15) p = lN (G p)) :
    ∃ (r1 : Int32) (Y1 : bk_Lay) (V1 : bk_Val), qC = some (r1, Y1, V1) ∧ bk_sh Y1 (z + 58) = (1, 11) ∧ ∃ (r2 : Int32) (V2 : bk_Val), qR Y1 V1 = some (r2, V2) ∧ r1 = r2 ∧ pk_IA z Y1 V2 := by
  obtain ⟨hM, hS, hz, hT, hs5, -⟩ := hJ.o
  have b0 := hB.1.1
  obtain ⟨wa, w1, w2, w3, w4⟩ := hJ.ww
  obtain ⟨j1, -, j3, j4⟩ := hJ.cl (wa := wa) (V' := bk_nc Y V wa) rfl (fun _ _ => rfl)
  obtain ⟨V3, q1, q2, q3, q4⟩ := hc wa w1 w3 j1 j4 (fun p hp => by rw [pk_rL_nc, if_pos rfl]; exact w4 p hp)
  obtain ⟨j5, j6, -⟩ := hJ.cl (wa := wa) (V' := V3) q2 q3
  obtain ⟨Y', V', e1, e2, e3⟩ := pc_believe hN j5 hB.2.2.1.2.2 b0 j3 j4 q4 hG
  have hR1 : pk_JR (z + 58) V' D P T tl st hs img pl fp r0 r1 := hRA.off (j6.tr e3)
  have hRf := e2.rf.1
  obtain ⟨V4, k1, k2, k3⟩ := pr_keepsJ hN hRf hR1.w0 hB.2.2.1.2.2 (V := bk_wI V' (z + 58) 0 (nI 0))
  obtain ⟨V5, l1, l2, l3, l4⟩ := hr Y' V' V4 hRf hR1.w0 k1 k2
  refine ⟨nI (sp_best G (4 * D 0 0)), Y', V', ?_, pk_stN e2 (hB.act ⟨hB.2.2.1.1.1, hB.2.2.1.1.2.1, hG, hGz⟩) ⟨V5, l1, ?_, ?_⟩⟩
  · rw [q1, e1, pk_bd3E]
  · have o := pk_out0.w0.frK k3
    refine ⟨?_, fun a q => ⟨?_, ?_⟩⟩
    · rw [← o.1]
      unfold bk_rI
      rw [l2]
    · rw [l2]; exact (o.2 a q).1
    · rw [l3 a (by omega)]; exact (o.2 a q).2
  · refine pk_JR.sta k2 (fun a q1 q2 q3 q4 q5 => by rw [l2]) (fun k q0 q1 q2 q3 q4 q5 q6 q7 => by rw [l2]) (fun a q1 q2 q3 q4 q5 q6 => l3 a q3) ⟨?_, ?_, ?_, l4⟩
    · rw [← k2.2.2.1.1]; unfold bk_rI; rw [l2]
    · rw [← k2.2.2.1.2.1]; unfold bk_rI; rw [l2]
    · rw [← k2.2.2.1.2.2.1]; unfold bk_rI; rw [l2]
/-! listen -/
def sp_lis (D : Nat → Nat → Nat) (w : Nat → Nat) (q k : Nat) : Nat → Nat := fun p => if p < 4 * D 0 0 ∧ p / 4 * 4 / D 0 0 = q then sp_les (D 0 3) (w p) k else w p
theorem sp_lis_le (hm : D 0 3 ≤ 100) (hF : ∀ p, w p ≤ m) (p : Nat) : sp_lis D w q k p ≤ m := by
  unfold sp_lis
  split
  · exact Nat.le_trans (sp_les_le hm k) (hF p)
  · exact hF p
theorem pc_lis42 (hN : 1000 ≤ N) (hM : pk_Mn Y z) (hz : bk_rR Y z 5 = some t) (hS : pk_Sd Y t) (hT : pk_CT V t D P) (hB : pk_DB D P) (hq : q < 4) (hk : k ≤ 600) (hs : bk_sh Y wa = (3, 4 * D 0 0)) (hF : ∀ p, w p ≤ 1000000000000000) (hw : ∀ p, p < 4 * D 0 0 → bk_rL V wa p = lN (w p)) : ∃ V', q_X11_listen_42 N N Y V z (nI q) (nI k) wa 0 = (bk_bd3 (q_X11_believe N Y V' z wa) fun r_12 Y_13 V_14 => some (r_12, Y_13, V_14)) ∧ V'.1 = V.1 ∧ (∀ b, b ≠ wa → V'.2 b = V.2 b) ∧ ∀ p, p < 4 * D 0 0 → bk_rL V' wa p = lN (sp_lis D w q k p) := by
  have b0 := hB.1
  have b3 := hB.2.2.2.1
  refine loop_i (σ := bk_Val) (fun fu j V1 => ∃ V', q_X11_listen_42 N fu Y V1 z (nI q) (nI k) wa (nI j) = (bk_bd3 (q_X11_believe N Y V' z wa) fun r_12 Y_13 V_14 => some (r_12, Y_13, V_14)) ∧ V'.1 = V.1 ∧ (∀ b, b ≠ wa → V'.2 b = V.2 b) ∧ ∀ p, p < 4 * D 0 0 → bk_rL V' wa p = lN (sp_lis D w q k p)) (fun j V1 => V1.1 = V.1 ∧ (∀ b, b ≠ wa → V1.2 b = V.2 b) ∧ ∀ p, p < 4 * D 0 0 → bk_rL V1 wa p = lN (if p / 4 < j then sp_lis D w q k p else w p)) (D 0 0) ?_ ?_ N 0 V (by omega) (by omega) ⟨rfl, fun _ _ => rfl, fun p hp => by rw [if_neg (by omega)]; exact hw p hp⟩
  · intro fu V1 hV
    have hT1 : pk_CT V1 t D P := by
      have q := hT
      unfold pk_CT pk_CR bk_rI at q ⊢
      rw [hV.1]
      exact q
    refine ⟨V1, ?_, hV.1, hV.2.1, fun p hp => ?_⟩
    · rw [q_X11_listen_42]
      simp (disch := omega) only [hM, hz, hS, pk_ckT, pk_bs, pk_letE, pk_bd2E, pk_bd3E, if_true, if_false, eq_self, not_true_eq_false, not_false_eq_true, true_and, and_true, Nat.not_lt_zero, Nat.zero_le, Nat.reduceEqDiff, Nat.reduceLT, Nat.reduceLeDiff, pk_ck, pc_inches hS hT1, nI_leI, Nat.le_refl]
    · rw [hV.2.2 p hp, if_pos (by omega)]
  · intro fu j V1 hj hV ih
    have hT1 : pk_CT V1 t D P := by
      have q := hT
      unfold pk_CT pk_CR bk_rI at q ⊢
      rw [hV.1]
      exact q
    have c1 := hT1.1 3 (by omega)
    have hqj : j * 4 / D 0 0 < 84 := Nat.lt_of_le_of_lt (Nat.div_le_of_le_mul (show j * 4 ≤ D 0 0 * 4 by omega)) (by omega)
    rw [q_X11_listen_42]
    simp (disch := omega) only [hM, hz, hS, pk_ckT, pk_bs, pk_letE, pk_bd2E, pk_bd3E, if_true, if_false, eq_self, not_true_eq_false, not_false_eq_true, true_and, and_true, Nat.not_lt_zero, Nat.zero_le, Nat.reduceEqDiff, Nat.reduceLT, Nat.reduceLeDiff, pk_ck, pc_inches hS hT1, nI_leI, pc_quarterOf hS hT1 b0, nI_eq, pk_lit, nI_clamp, pk_inE, c1]
    rw [if_neg (by omega)]
    by_cases c : j * 4 / D 0 0 = q
    · obtain ⟨V3, q1, q2, q3, q4⟩ := pc_lessen (N := N) (Y := Y) (V := V1) (wa := wa) (i := j) (m := D 0 3) (k := k) (w := fun p => if p / 4 < j then sp_lis D w q k p else w p) hN hs (by omega) (by omega) (by omega) hk (fun p => by
        show (if p / 4 < j then sp_lis D w q k p else w p) ≤ _
        split
        · exact sp_lis_le (by omega) hF p
        · exact hF p) hV.2.2
      have ih' := ih V3 ⟨q2.trans hV.1, fun b hb => (q3 b hb).trans (hV.2.1 b hb), fun p hp => by
        rw [q4 p hp]
        by_cases c2 : p / 4 = j
        · rw [if_pos c2, if_neg (show ¬ p / 4 < j by omega), if_pos (show p / 4 < j + 1 by omega)]
          unfold sp_lis
          rw [if_pos ⟨hp, by rw [c2]; exact c⟩]
        · rw [if_neg c2]
          by_cases c3 : p / 4 < j
          · rw [if_pos c3, if_pos (by omega)]
          · rw [if_neg c3, if_neg (by omega)]⟩
      rw [if_pos c, q1, pk_bs, q_X11_listen_83, pk_lit, nI_add]
      exact ih'
    · have ih' := ih V1 ⟨hV.1, hV.2.1, fun p hp => by
        rw [hV.2.2 p hp]
        by_cases c2 : p / 4 = j
        · rw [if_neg (by omega), if_pos (by omega)]
          unfold sp_lis
          rw [if_neg (fun g => c (by rw [← c2]; exact g.2))]
        · by_cases c3 : p / 4 < j
          · rw [if_pos c3, if_pos (by omega)]
          · rw [if_neg c3, if_neg (by omega)]⟩
      rw [if_neg c, q_X11_listen_83, pk_lit, nI_add]
      exact ih'
theorem pr_lis44 {K : bk_Val → Nat → Int32 → Int32 → Int32 → Option (Int32 × bk_Val)} (hN : 1000 ≤ N) (hS : pk_Rf Y r) (h1 : bk_rI V r 1 = nI (D 0 0)) (h4 : bk_rI V r 4 = nI (D 0 3)) (hB : pk_DB D P) (hq : q < 4) (hF : ∀ p, w p ≤ 1000000000000000) (hw : ∀ p, p < 336 → bk_rL V (r + 15) p = lN (w p)) : ∃ V', q_X12_listen_44 N Y K N V r (nI q) x2 x3 0 = K V' r (nI q) x2 (x3 + 1) ∧ V'.1 = V.1 ∧ (∀ c, c ≠ r + 15 → V'.2 c = V.2 c) ∧ ∀ p, p < 336 → bk_rL V' (r + 15) p = lN (sp_lis D w q 1 p) := by
  have b0 := hB.1
  have b3 := hB.2.2.2.1
  refine loop_i (σ := bk_Val) (fun fu j V1 => ∃ V', q_X12_listen_44 N Y K fu V1 r (nI q) x2 x3 (nI j) = K V' r (nI q) x2 (x3 + 1) ∧ V'.1 = V.1 ∧ (∀ c, c ≠ r + 15 → V'.2 c = V.2 c) ∧ ∀ p, p < 336 → bk_rL V' (r + 15) p = lN (sp_lis D w q 1 p)) (fun j V1 => V1.1 = V.1 ∧ (∀ c, c ≠ r + 15 → V1.2 c = V.2 c) ∧ ∀ p, p < 336 → bk_rL V1 (r + 15) p = lN (if p < j then sp_lis D w q 1 p else w p)) (4 * D 0 0) ?_ ?_ N 0 V (by omega) (by omega) ⟨rfl, fun _ _ => rfl, fun p hp => by rw [if_neg (by omega)]; exact hw p hp⟩
  · intro fu V1 hV
    have g1 : bk_rI V1 r 1 = nI (D 0 0) := by rw [← h1]; unfold bk_rI; rw [hV.1]
    refine ⟨V1, ?_, hV.1, hV.2.1, fun p hp => ?_⟩
    · rw [q_X12_listen_44]
      simp (disch := omega) only [hS, g1, pk_ckT, pk_bs, pk_letE, pk_bd2E, pk_bd3E, if_true, if_false, eq_self, not_true_eq_false, not_false_eq_true, true_and, and_true, Nat.not_lt_zero, Nat.zero_le, Nat.reduceEqDiff, Nat.reduceLT, Nat.reduceLeDiff, pk_ck, pk_lit, nI_add, pk_mul, nI_clamp, nI_leI, nI_ltI, nI_eq, pk_div, pk_remE, pk_inE, pk_sub, Nat.le_refl]
    · rw [hV.2.2 p hp]
      by_cases c : p < 4 * D 0 0
      · rw [if_pos c]
      · rw [if_neg c]
        unfold sp_lis
        rw [if_neg (fun q => c q.1)]
  · intro fu j V1 hj hV ih
    have g1 : bk_rI V1 r 1 = nI (D 0 0) := by rw [← h1]; unfold bk_rI; rw [hV.1]
    have g4 : bk_rI V1 r 4 = nI (D 0 3) := by rw [← h4]; unfold bk_rI; rw [hV.1]
    have e1 := hV.2.2 j (by omega)
    rw [if_neg (by omega)] at e1
    have hF1 := hF j
    have hx : w j * D 0 3 ≤ 1000000000000000 * 99 := Nat.mul_le_mul hF1 b3.2
    have hqj : j / 4 * 4 / D 0 0 < 336 := Nat.lt_of_le_of_lt (Nat.div_le_self _ _) (by omega)
    rw [q_X12_listen_44]
    simp (disch := omega) only [hS, g1, g4, pk_ckT, pk_bs, pk_letE, pk_bd2E, pk_bd3E, if_true, if_false, eq_self, not_true_eq_false, not_false_eq_true, true_and, and_true, Nat.not_lt_zero, Nat.zero_le, Nat.reduceEqDiff, Nat.reduceLT, Nat.reduceLeDiff, pk_ck, pk_lit, nI_add, pk_mul, nI_clamp, nI_leI, nI_ltI, nI_eq, pk_div, pk_remE, pk_inE, pk_sub, e1, nI_l, pk_litL, lN_mul, pk_lDiv, q_X12_listen_94]
    rw [if_neg (by omega)]
    by_cases c : j / 4 * 4 / D 0 0 = q
    · rw [if_pos c]
      refine ih _ ⟨hV.1, fun d hd => (pk_rowL (by omega)).trans (hV.2.1 d hd), fun p hp => ?_⟩
      rw [pk_rL_same]
      by_cases cp : p = j
      · rw [if_pos cp, if_pos (by omega), cp]
        unfold sp_lis
        rw [if_pos ⟨hj, c⟩]
        rfl
      · rw [if_neg cp, hV.2.2 p hp]
        by_cases c2 : p < j
        · rw [if_pos c2, if_pos (by omega)]
        · rw [if_neg c2, if_neg (by omega)]
    · rw [if_neg c]
      refine ih _ ⟨hV.1, hV.2.1, fun p hp => ?_⟩
      rw [hV.2.2 p hp]
      by_cases cp : p = j
      · rw [if_neg (by omega), if_pos (by omega), cp]
        unfold sp_lis
        rw [if_neg (fun q => c q.2)]
      · by_cases c2 : p < j
        · rw [if_pos c2, if_pos (by omega)]
        · rw [if_neg c2, if_neg (by omega)]
theorem sp_lis_s : sp_lis D (sp_lis D w q j) q 1 p = sp_lis D w q (j + 1) p := by
  unfold sp_lis
  by_cases c : p < 4 * D 0 0 ∧ p / 4 * 4 / D 0 0 = q
  · rw [if_pos c, if_pos c, if_pos c]
    rfl
  · rw [if_neg c, if_neg c, if_neg c]
theorem pr_lis36 (hN : 1000 ≤ N) (hS : pk_Rf Y r) (h1 : bk_rI V r 1 = nI (D 0 0)) (h4 : bk_rI V r 4 = nI (D 0 3)) (hB : pk_DB D P) (hq : q < 4) (hk : k ≤ 600) (hF : ∀ p, w p ≤ 1000000000000000) (hw : ∀ p, p < 336 → bk_rL V (r + 15) p = lN (w p)) : ∃ V', q_X12_listen_36 N Y N V r (nI q) (nI k) 0 = some (nI (sp_best (sp_lis D w q k) (4 * D 0 0)), V') ∧ V'.1 = V.1 ∧ (∀ c, c ≠ r + 15 → V'.2 c = V.2 c) ∧ ∀ p, p < 336 → bk_rL V' (r + 15) p = lN (sp_lis D w q k p) := by
  have b0 := hB.1
  have b3 := hB.2.2.2.1
  have hG : ∀ j p, sp_lis D w q j p ≤ 1000000000000000 := fun j p => sp_lis_le (by omega) hF p
  refine loop_i (σ := bk_Val) (fun fu j V1 => ∃ V', q_X12_listen_36 N Y fu V1 r (nI q) (nI k) (nI j) = some (nI (sp_best (sp_lis D w q k) (4 * D 0 0)), V') ∧ V'.1 = V.1 ∧ (∀ c, c ≠ r + 15 → V'.2 c = V.2 c) ∧ ∀ p, p < 336 → bk_rL V' (r + 15) p = lN (sp_lis D w q k p)) (fun j V1 => V1.1 = V.1 ∧ (∀ c, c ≠ r + 15 → V1.2 c = V.2 c) ∧ ∀ p, p < 336 → bk_rL V1 (r + 15) p = lN (sp_lis D w q j p)) k ?_ ?_ N 0 V (by omega) (by omega) ⟨rfl, fun _ _ => rfl, fun p hp => by
    rw [hw p hp]
    unfold sp_lis
    show _ = lN (if _ then w p else w p)
    rw [ite_self]⟩
  · intro fu V1 hV
    have g1 : bk_rI V1 r 1 = nI (D 0 0) := by rw [← h1]; unfold bk_rI; rw [hV.1]
    refine ⟨V1, ?_, hV⟩
    rw [q_X12_listen_36, if_pos (nI_le (by omega) (by omega)), pk_ck hS.1, pr_likeliest (w := sp_lis D w q k) hN hS g1 b0 (fun p => Nat.le_trans (hG k p) (by omega)) (fun p hp => hV.2.2 p (by omega)), pk_bs]
  · intro fu j V1 hj hV ih
    have g1 : bk_rI V1 r 1 = nI (D 0 0) := by rw [← h1]; unfold bk_rI; rw [hV.1]
    have g4 : bk_rI V1 r 4 = nI (D 0 3) := by rw [← h4]; unfold bk_rI; rw [hV.1]
    obtain ⟨V3, q1, q2, q3, q4⟩ := pr_lis44 (N := N) (Y := Y) (V := V1) (K := q_X12_listen_36 N Y fu) (x2 := nI k) (x3 := nI j) (q := q) (w := sp_lis D w q j) hN hS g1 g4 hB hq (hG j) hV.2.2
    have ih' := ih V3 ⟨q2.trans hV.1, fun c hc => (q3 c hc).trans (hV.2.1 c hc), fun p hp => by rw [q4 p hp, sp_lis_s]⟩
    rw [q_X12_listen_36, if_neg (by rw [nI_leI (by omega) (by omega)]; omega), q1, show nI j + 1 = nI (j + 1) from nI_add j 1]
    exact ih'
theorem st_11 (hN : 20000 ≤ N) (hI : pk_IA z Y V) : bk_st11 N z (z + 58) (z + 86) Y V x1 x2 x3 x4 x5 (pk_IA z) := by
  obtain ⟨t, u, s, D, P, T, tl, st, hs, img, pl, fp, r0, r1, hJ, hR, hB, hC, hRA, hBA⟩ := hI.e
  obtain ⟨hM, hS, hz, hT, hs5, -⟩ := hJ.o
  have b0 := hB.1.1
  have b3 := hB.1.2.2.2.1
  unfold bk_st11
  rcases pk_ix2 x1 (n := 4) (by omega) with hx | ⟨q, hq, rfl⟩
  · have ho : ¬ (nI 0 ≤ x1 ∧ x1 ≤ nI 3) := pk_out hx (by omega) (by omega)
    refine pk_rfs (N := N) (qR := fun Y1 V1 => q_X12_listen N Y1 V1 (z + 58) x1 x2) hJ hRA hB ?_ (fun V1 hRf hR1 => ?_)
    · simp only [q_X11_listen, pc_isWithin, pk_bs, pk_lit, pk_B0]
      rw [if_pos ho, q_X11_listen_20, pk_ck hM.1]
    · simp only [q_X12_listen, hRf, pk_ckT, eq_self, pk_letE, pk_lit, pk_bs, pk_B0, pr_within]
      rw [if_pos ho, q_X12_listen_25, pk_ck hRf.1]
  · have hin : nI 0 ≤ nI q ∧ nI q ≤ nI 3 := pk_inn hq (by omega) rfl
    rcases pk_in600 x2 with hx | ⟨k, hk, hk2, rfl⟩
    · refine pk_rfs (N := N) (qR := fun Y1 V1 => q_X12_listen N Y1 V1 (z + 58) (nI q) x2) hJ hRA hB ?_ (fun V1 hRf hR1 => ?_)
      · simp only [q_X11_listen, pc_isWithin, pk_bs, pk_lit, pk_B0]
        rw [if_neg (fun g => g hin), if_pos hx, q_X11_listen_20, pk_ck hM.1]
      · simp only [q_X12_listen, hRf, pk_ckT, eq_self, pk_letE, pk_lit, pk_bs, pk_B0, pr_within]
        rw [if_neg (fun g => g hin), if_pos hx, q_X12_listen_25, pk_ck hRf.1]
    · have hk' : nI 1 ≤ nI k ∧ nI k ≤ nI 600 := ⟨nI_le (by omega) (by omega), nI_le (by omega) (by omega)⟩
      have hF := hB.2.2.1.1.2.2.1
      have hFz := hB.2.2.1.1.2.2.2
      refine pk_wrs (N := N) (G := sp_lis D st.2.2.2 q k) (qR := fun Y1 V1 => q_X12_listen N Y1 V1 (z + 58) (nI q) (nI k)) hN hJ hRA hB (sp_lis_le (by omega) hF) (fun p hp => ?_) (fun wa w1 w3 j1 j4 hv => ?_) (fun Y' V' V4 hRf hR1 k1 k2 => ?_)
      · unfold sp_lis
        rw [if_neg (fun g => by have := g.1; omega)]
        exact hFz p hp
      · obtain ⟨m1, m2, m3, m4, -⟩ := j1.sd
        obtain ⟨V3, q1, q2⟩ := pc_lis42 (N := N) (q := q) (k := k) (w := st.2.2.2) (by omega) m1 m3 m2 m4 hB.1 hq hk2 j4 hF hv
        refine ⟨V3, ?_, q2⟩
        have hsh : (bk_sh Y wa).1 = 3 ∧ (bk_sh Y wa).2 = 4 * D 0 0 := by rw [w3]; exact ⟨rfl, rfl⟩
        simp only [q_X11_listen, hM, pk_ckT, eq_self, pk_bs, pk_lit, pk_B0, pc_isWithin]
        rw [if_neg (fun g => g hin), if_neg (fun g => g hk'), hz.2.2, pk_bs, pk_ck hs5.1, w1, pk_bs, pk_ck hsh.1, hsh.2, pk_ck (by omega), pk_letE, pk_letE, pk_letE, pk_ck (by rw [j4])]
        exact q1
      · obtain ⟨V5, l1, l2⟩ := pr_lis36 (N := N) (Y := Y') (V := V4) (r := z + 58) (q := q) (k := k) (w := st.2.2.2) (by omega) hRf k2.1.1.1 k2.1.1.2.2.2.1 hB.1 hq hk2 hF k2.2.2.1.2.2.2
        refine ⟨V5, ?_, l2⟩
        simp only [q_X12_listen, hRf, pk_ckT, eq_self, pk_letE, pk_lit, pk_bs, pk_B0, pr_within]
        rw [if_neg (fun g => g hin), if_neg (fun g => g hk'), k1, pk_bs]
        exact l1
end
