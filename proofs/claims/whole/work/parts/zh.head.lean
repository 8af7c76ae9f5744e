/-! a text is told: from its first token to its last -/
def pk_tR (N : Nat) (Y : bk_Lay) (z : Nat) (V : bk_Val) : Option (Int32 × bk_Lay × bk_Val) := (q_X9_isWord N Y V (z + 55) 1).bind fun r_46 => if r_46 = nI 0 then q_X8_tell_76 N Y V (z + 54) else (q_X9_step N Y V (z + 55)).bind fun V_48 => bk_bd2 (q_X8_readSettings N Y V_48 (z + 54) (nI 0)) fun r_50 V_51 => if r_50 = nI 0 then some (bk_rI V_51 (z + 54) 4, Y, V_51) else bk_bd2 (q_X8_readSign N Y V_51 (z + 54) (nI 59)) fun r_53 V_54 => if r_53 = nI 0 then some (bk_rI V_54 (z + 54) 4, Y, V_54) else q_X8_tell_76 N Y V_54 (z + 54)
def pk_sR (N : Nat) (Y : bk_Lay) (r : Nat) (V : bk_Val) (x : Int32) : Option (Int32 × bk_Val) := (q_X12_knownWord N Y V r).bind fun r_117 => if r_117 = nI 17 then (q_X12_goes N Y V r).bind fun V_119 => bk_bd2 (q_X12_number N Y V_119 r (nI 12) (nI 84)) fun r_121 V_122 => (q_X12_isSign N Y (bk_wI V_122 r 32 r_121) r (nI 59)).bind fun r_126 => (q_X12_need N Y (bk_wI V_122 r 32 r_121) r r_126).bind fun V_128 => q_X12_shed_100 N Y N V_128 r x else q_X12_shed_100 N Y N V r x
/-- how a text ends, the class -/
def pk_eC (z u : Nat) (Y : bk_Lay) (V : bk_Val) (X : Option (Int32 × bk_Lay × bk_Val)) (o : pk_O) : Prop := ∃ V', X = some (nI o.1, Y, V') ∧ pk_fW z u V V' ∧ (o.1 = 0 → pk_CT V' u o.2.2.1 o.2.2.2.1) ∧ (o.1 ≠ 0 → bk_rI V' (z + 54) 5 = nI o.2.1)
/-- and the reference -/
def pk_eR (N r : Nat) (Y : bk_Lay) (V : bk_Val) (X : Option (Int32 × bk_Val)) (o : pk_O) : Prop := ∃ V', X = q_X12_shed_169 N Y V' r ∧ pk_frW r V V' ∧ ((o.1 = 0 ∧ pk_gd r V' ∧ pk_NT V' r o.2.2.1 ∧ ∃ K, pk_KK V' r o.2.2.2.1 K ∧ K.length ≤ 1400) ∨ (o.1 ≠ 0 ∧ pk_FR r V' o.1 o.2.1))
section
variable {N z t u s r a b c d k n j h m l p q q0 md wa s' i f gg v S L g lo hi w e : Nat} {Y Y2 Y' : bk_Lay} {V V' V1 V2 V8 : bk_Val} {x y x1 x2 x3 x4 x5 ee : Int32} {T T' R G In : Nat → Nat} {D D' : Nat → Nat → Nat} {P P' : Nat → List Nat} {B B' : Nat → Bool} {K : List Nat} {o : pk_O} {XC : Option (Int32 × bk_Lay × bk_Val)} {XR : Option (Int32 × bk_Val)}
theorem pk_eC.fr (h : pk_eC z u Y V1 XC o) (f : pk_fW z u V V1) : pk_eC z u Y V XC o := by
  obtain ⟨V', a, b, c⟩ := h
  exact ⟨V', a, f.tr b, c⟩
theorem pk_eR.fr (h : pk_eR N r Y V1 XR o) (f : pk_frW r V V1) : pk_eR N r Y V XR o := by
  obtain ⟨V', a, b, c⟩ := h
  exact ⟨V', a, f.tr b, c⟩
theorem pc_begin (hN : 1000 ≤ N) (hM : pk_Mn Y z) (hx : pk_txC z V T L) (h4 : bk_rI V (z + 54) 4 = nI 0) : ∃ V', q_X9_begin N Y V (z + 55) (nI L) = some V' ∧ pk_but (z + 55) V V' ∧ pk_PC z V' T L 0 := by
  have hL := hx.2.2
  have f0 : pk_but (z + 55) V (bk_wI (bk_wI V (z + 55) 1 (nI L)) (z + 55) 2 (nI 0)) := pk_but.wsl.tr pk_but.wsl
  obtain ⟨V', e1, e2, e3⟩ := pc_step (N := N) (p := 0) hN hM (hx.but f0) (by rw [pk_rI_same, if_neg (by omega), pk_rI_same, if_pos rfl]) (by rw [pk_rI_same, if_pos rfl]) (by omega)
  refine ⟨V', ?_, f0.tr e2, hx.but (f0.tr e2), e3, by omega, (congrFun ((f0.tr e2).2 (z + 54) (by omega)) 4).trans h4⟩
  unfold q_X9_begin
  have m1 : q_J9_min_7cf53 N Y V (nI L) (nI 700) = some (nI L) := by rw [pk_min (by omega) (by omega), Nat.min_eq_left hL]
  have m2 : q_J9_max_7cf53 N Y V (nI 0) (nI L) = some (nI L) := by rw [pk_max (by omega) (by omega), Nat.max_eq_right (by omega)]
  simp only [hM, pk_ckT, pk_bs, pk_letE, pk_bd2E, pk_bd3E, if_true, if_false, eq_self, not_true_eq_false, not_false_eq_true, true_and, and_true, Nat.not_lt_zero, Nat.zero_le, Nat.reduceEqDiff, Nat.reduceLT, Nat.reduceLeDiff, pk_ck, pk_lit, m1, m2, e1]
theorem tq_end (hL : L ≤ 700) (hp : p ≤ L) (h : tq_k T L p = 0) : tq_s T L p = L := ((tq_e_p hL hp).2.2.2 h).1
/-- the last check: some cause must be -/
theorem pc_113 (H : pk_cL N z u Y) (h : pk_LC z u V T L p D P B) (hD : pk_DB D P) (hk : tq_k T L p = 0) : pk_eC z u Y V (q_X8_tell_113 N Y V (z + 54)) (if D 1 0 + D 1 1 + D 1 2 + D 1 3 = 0 then tq_oF 6 L else (0, p, D, P, B)) := by
  obtain ⟨hN, hM, hS, hi, u1, u2⟩ := H
  have a2 := (pk_CT_iff.mp h.2.1).2.1
  have b0 : bk_rI V (u + 2) 0 = nI (D 1 0) := a2 0 (by omega)
  have b1 : bk_rI V (u + 2) 1 = nI (D 1 1) := a2 1 (by omega)
  have b2 : bk_rI V (u + 2) 2 = nI (D 1 2) := a2 2 (by omega)
  have b3 : bk_rI V (u + 2) 3 = nI (D 1 3) := a2 3 (by omega)
  have d1 := (pk_DB_iff.mp hD).2.1
  have c0 := d1 0 (by omega)
  have c1 := d1 1 (by omega)
  have c2 := d1 2 (by omega)
  have c3 := d1 3 (by omega)
  have e4 : bk_rI V (z + 54) 4 = nI 0 := h.1.2.2.2
  have e0 : q_X8_tell_113 N Y V (z + 54) = if D 1 0 + D 1 1 + D 1 2 + D 1 3 = 0 then bk_bd2 (q_X8_refuse N Y V (z + 54) (nI 6)) (fun r_13 V_14 => some (bk_rI V_14 (z + 54) 4, Y, V_14)) else some (nI 0, Y, V) := by
    unfold q_X8_tell_113
    simp (disch := omega) only [hM, hS, hi, pk_ckT, pk_bs, pk_letE, pk_bd2E, pk_bd3E, if_true, if_false, eq_self, not_true_eq_false, not_false_eq_true, true_and, and_true, Nat.not_lt_zero, Nat.zero_le, Nat.reduceEqDiff, Nat.reduceLT, Nat.reduceLeDiff, pk_ck, pk_lit, nI_clamp, pk_inE, b0, b1, b2, b3, nI_add, nI_eq, e4]
  rw [e0]
  by_cases q : D 1 0 + D 1 1 + D 1 2 + D 1 3 = 0
  · rw [if_pos q, if_pos q]
    obtain ⟨V', e1, e2, e3⟩ := pc_refuse8 (N := N) (k := 6) hM h.1
    refine ⟨V', ?_, e2.fW, fun g => absurd g (by show ¬ (6 : Nat) = 0; omega), fun _ => ?_⟩
    · rw [e1, pk_bd2E, e3.1]
      rfl
    · rw [e3.2, tq_end h.1.1.2.2 h.1.2.2.1 hk]
      rfl
  · rw [if_neg q, if_neg q]
    exact ⟨V, rfl, pk_fW.rf, fun _ => h.2.1, fun g => absurd rfl g⟩
theorem pr_121 (hN : 1000 ≤ N) (hS : pk_Rf Y r) (h : pk_LR r V T L p D P B) (hD : pk_DB D P) : pk_eR N r Y V (q_X12_shed_121 N Y V r (nI L)) (if D 1 0 + D 1 1 + D 1 2 + D 1 3 = 0 then tq_oF 6 L else (0, p, D, P, B)) := by
  have a2 := (pk_NT_iff.mp h.2.1).2.1
  have b0 : bk_rI V (r + 9) 0 = nI (D 1 0) := a2 0 (by omega)
  have b1 : bk_rI V (r + 9) 1 = nI (D 1 1) := a2 1 (by omega)
  have b2 : bk_rI V (r + 9) 2 = nI (D 1 2) := a2 2 (by omega)
  have b3 : bk_rI V (r + 9) 3 = nI (D 1 3) := a2 3 (by omega)
  have d1 := (pk_DB_iff.mp hD).2.1
  have c0 := d1 0 (by omega)
  have c1 := d1 1 (by omega)
  have c2 := d1 2 (by omega)
  have c3 := d1 3 (by omega)
  have hp := h.1.2.2.1
  have hL := h.1.1.2.2.1
  have e0 : q_X12_shed_121 N Y V r (nI L) = if D 1 0 + D 1 1 + D 1 2 + D 1 3 = 0 then (q_X12_wrong N Y (bk_wI V r 27 (nI L)) r (nI 6)).bind (fun V_87 => q_X12_shed_169 N Y V_87 r) else q_X12_shed_169 N Y V r := by
    unfold q_X12_shed_121
    rw [pk_ck hS.1, pr_goodY hS h.1.2.2.2, pk_bs, if_neg pk_n10]
    simp (disch := omega) only [hS, pk_ckT, pk_bs, pk_letE, pk_bd2E, pk_bd3E, if_true, if_false, eq_self, not_true_eq_false, not_false_eq_true, true_and, and_true, Nat.not_lt_zero, Nat.zero_le, Nat.reduceEqDiff, Nat.reduceLT, Nat.reduceLeDiff, pk_ck, pk_lit, nI_clamp, pk_inE, b0, b1, b2, b3, nI_add, nI_eq]
  rw [e0]
  by_cases q : D 1 0 + D 1 1 + D 1 2 + D 1 3 = 0
  · rw [if_pos q, if_pos q]
    refine ⟨bk_wI (bk_wI (bk_wI V r 27 (nI L)) r 21 (nI 6)) r 22 (nI L), ?_, ((pk_frW.ws (by omega)).tr ((pk_frU.wI (Or.inl rfl)).toW)).tr ((pk_frU.wI (Or.inr rfl)).toW), Or.inr ⟨by show ¬ (6 : Nat) = 0; omega, ?_, ?_, by show 0 < 6 ∧ 6 < 10; omega⟩⟩
    · have e1 : q_X12_wrong N Y (bk_wI V r 27 (nI L)) r (nI 6) = some (bk_wI (bk_wI (bk_wI V r 27 (nI L)) r 21 (nI 6)) r 22 (nI L)) := by
        unfold q_X12_wrong
        rw [pk_ck hS.1, show bk_rI (bk_wI V r 27 (nI L)) r 21 = nI 0 from by rw [pk_rI_same, if_neg (by omega)]; exact h.1.2.2.2.1, if_pos (show nI 0 = (0 : Int32) from rfl), pk_letE, show bk_rI (bk_wI (bk_wI V r 27 (nI L)) r 21 (nI 6)) r 27 = nI L from by rw [pk_rI_same, if_neg (by omega), pk_rI_same, if_pos rfl], pk_letE]
      rw [e1, pk_bs]
    · rw [pk_rI_same, if_neg (by omega), pk_rI_same, if_pos rfl]
      rfl
    · rw [pk_rI_same, if_pos rfl]
      rfl
  · rw [if_neg q, if_neg q]
    obtain ⟨K, k1, k2⟩ := h.2.2.1
    exact ⟨V, rfl, pk_frW.rf, Or.inl ⟨rfl, h.1.2.2.2, h.2.1, K, k1, by omega⟩⟩
theorem pr_121F (hS : pk_Rf Y r) (h : pk_FR r V k e) : q_X12_shed_121 N Y V r x = q_X12_shed_169 N Y V r := by
  unfold q_X12_shed_121
  rw [pk_ck hS.1, pr_goodN hS h, pk_bs, if_pos (show nI 0 = (0 : Int32) from rfl)]
/-- the lines to the end -/
theorem pk_LF (T : Nat → Nat) (H : pk_lE N z u Y L p D P B) : ∃ o : pk_O, (o.1 = 0 → pk_DB o.2.2.1 o.2.2.2.1) ∧ (∀ V, pk_LC z u V T L p D P B → pk_eC z u Y V (q_X8_tell_76 N Y V (z + 54)) o) ∧ (∀ Y2 V, pk_Rf Y2 r → pk_LR r V T L p D P B → pk_eR N r Y2 V (q_X12_shed_100 N Y2 N V r (nI L)) o) := by
  have ⟨hN, hC, hL, hp, hD, hP0, hP1⟩ := H
  obtain ⟨o, l1, l2, l3⟩ := pk_loopL (r := r) T (L - p) p D P B (Nat.le_refl _) H
  by_cases q : o.1 = 0
  · obtain ⟨b1, b2, b3⟩ := l1 q
    refine ⟨if o.2.2.1 1 0 + o.2.2.1 1 1 + o.2.2.1 1 2 + o.2.2.1 1 3 = 0 then tq_oF 6 L else (0, o.2.1, o.2.2.1, o.2.2.2.1, o.2.2.2.2), ?_, fun V h => ?_, fun Y2 V hS h => ?_⟩
    · split
      · exact fun g => absurd g (by show ¬ (6 : Nat) = 0; omega)
      · exact fun _ => b3
    · obtain ⟨V1, c1, c2⟩ := l2 N V 0 h (by omega) (by omega)
      rcases c2 with ⟨-, d1, d2⟩ | ⟨g, -⟩
      · rw [show q_X8_tell_76 N Y V (z + 54) = _ from d1]
        exact (pc_113 hC d2 b3 b2).fr c1
      · exact absurd q g
    · obtain ⟨V1, c1, c2, c3⟩ := l3 Y2 N V (nI L) hS h (by omega)
      rcases c3 with ⟨-, d2⟩ | ⟨g, -⟩
      · rw [c2]
        exact (pr_121 (by omega) hS d2 b3).fr c1
      · exact absurd q g
  · refine ⟨o, fun g => absurd g q, fun V h => ?_, fun Y2 V hS h => ?_⟩
    · obtain ⟨V1, c1, c2⟩ := l2 N V 0 h (by omega) (by omega)
      rcases c2 with ⟨g, -⟩ | ⟨-, d1, d2⟩
      · exact absurd g q
      · exact ⟨V1, d1, c1, fun g => absurd g q, fun _ => d2.2⟩
    · obtain ⟨V1, c1, c2, c3⟩ := l3 Y2 N V (nI L) hS h (by omega)
      rcases c3 with ⟨g, -⟩ | ⟨-, d2⟩
      · exact absurd g q
      · exact ⟨V1, by rw [c2, pr_121F hS d2], c1, Or.inr ⟨q, d2⟩⟩
/-- the whole text -/
theorem pk_tellX (T : Nat → Nat) (hN : 2000 ≤ N) (hC : pk_cL N z u Y) (hL : L ≤ 700) : ∃ o : pk_O, (o.1 = 0 → pk_DB o.2.2.1 o.2.2.2.1) ∧ (∀ V, pk_LC z u V T L 0 tq_D0 (fun _ => []) (fun _ => false) → pk_eC z u Y V (pk_tR N Y z V) o) ∧ (∀ Y2 V, pk_Rf Y2 r → pk_LR r V T L 0 tq_D0 (fun _ => []) (fun _ => false) → pk_eR N r Y2 V (pk_sR N Y2 r V (nI L)) o) := by
  have ⟨hN1, hM, hSd, hi, u1, u2⟩ := hC
  have wb := tq_w_b (T := T) (L := L) (p := 0)
  by_cases q0 : tq_w T L 0 = 17
  rotate_left
  · obtain ⟨o, l1, l2, l3⟩ := pk_LF (N := N) (r := r) (D := tq_D0) (P := fun _ => []) (B := fun _ => false) (p := 0) T ⟨hN, hC, hL, Nat.zero_le _, tq_D0_b, fun _ => rfl, fun _ => rfl⟩
    refine ⟨o, l1, fun V h => ?_, fun Y2 V hS h => ?_⟩
    · have e0 : pk_tR N Y z V = q_X8_tell_76 N Y V (z + 54) := by
        unfold pk_tR
        rw [pc_wrd hC h.1 (by omega), pk_bs, pk_Bf (show ¬ tq_w T L 0 = tq_G.getD 1 99 from q0), if_pos rfl]
      rw [e0]
      exact l2 V h
    · have e0 : pk_sR N Y2 r V (nI L) = q_X12_shed_100 N Y2 N V r (nI L) := by
        unfold pk_sR
        rw [pr_known (by omega) hS hL h.1.2.2.1 h.1.2.1, pk_bs, if_neg (show ¬ tq_wI (tq_w T L 0) = nI 17 by rw [tq_wI_eq (by omega) (by omega)]; exact q0)]
      rw [e0]
      exact l3 Y2 V hS h
  have wk := tq_w_k (T := T) (L := L) (p := 0) (by omega)
  have e1 := tq_e_gt (T := T) hL (Nat.zero_le L) (by omega)
  have e2 := tq_e_le (T := T) hL (Nat.zero_le L)
  have cE : ∀ V, pk_LC z u V T L 0 tq_D0 (fun _ => []) (fun _ => false) → ∃ V1, pk_fW z u V V1 ∧ pk_LC z u V1 T L (tq_e T L 0) tq_D0 (fun _ => []) (fun _ => false) ∧ pk_tR N Y z V = bk_bd2 (q_X8_readSettings N Y V1 (z + 54) (nI 0)) fun r_50 V_51 => if r_50 = nI 0 then some (bk_rI V_51 (z + 54) 4, Y, V_51) else bk_bd2 (q_X8_readSign N Y V_51 (z + 54) (nI 59)) fun r_53 V_54 => if r_53 = nI 0 then some (bk_rI V_54 (z + 54) 4, Y, V_54) else q_X8_tell_76 N Y V_54 (z + 54) := by
    intro V h
    obtain ⟨V1, a1, a2, a3⟩ := pc_go hC h
    refine ⟨V1, a2, a3, ?_⟩
    unfold pk_tR
    rw [pc_wrd hC h.1 (by omega), pk_bs, pk_Bt (show tq_w T L 0 = tq_G.getD 1 99 from q0), if_neg (show ¬ nI 1 = nI 0 by decide), a1, pk_bs]
  have rE : ∀ Y2 V, pk_Rf Y2 r → pk_LR r V T L 0 tq_D0 (fun _ => []) (fun _ => false) → ∃ V2, pk_frW r V (bk_wI V2 r (32 + 0) (nI (tq_v T L (tq_e T L 0)))) ∧ (tq_no T L (tq_e T L 0) 12 84 = 0 → pk_LR r (bk_wI V2 r (32 + 0) (nI (tq_v T L (tq_e T L 0)))) T L (tq_e T L (tq_e T L 0)) (tq_D tq_D0 0 0 (tq_v T L (tq_e T L 0))) (fun _ => []) (fun _ => false)) ∧ (tq_no T L (tq_e T L 0) 12 84 ≠ 0 → pk_FR r (bk_wI V2 r (32 + 0) (nI (tq_v T L (tq_e T L 0)))) (tq_no T L (tq_e T L 0) 12 84) (tq_s T L (tq_e T L 0))) ∧ pk_sR N Y2 r V (nI L) = (q_X12_isSign N Y2 (bk_wI V2 r (32 + 0) (nI (tq_v T L (tq_e T L 0)))) r (nI 59)).bind fun r_126 => (q_X12_need N Y2 (bk_wI V2 r (32 + 0) (nI (tq_v T L (tq_e T L 0)))) r r_126).bind fun V_128 => q_X12_shed_100 N Y2 N V_128 r (nI L) := by
    intro Y2 V hS h
    obtain ⟨V1, a1, a2, a3⟩ := pr_go (N := N) (by omega) hS h (by omega)
    obtain ⟨V2, b1, b2, b3, b4⟩ := pr_set (N := N) (k := 0) (lo := 12) (hi := 84) (by omega) hS a3 (by omega) (by omega) (by omega)
    refine ⟨V2, a2.toW.tr b2, b3, b4, ?_⟩
    unfold pk_sR
    rw [pr_known (by omega) hS hL h.1.2.2.1 h.1.2.1, pk_bs, if_pos (show tq_wI (tq_w T L 0) = nI 17 by rw [tq_wI_eq (by omega) (by omega)]; exact q0), a1, pk_bs, b1, pk_bd2E]
  have rF : ∀ (Y2 : bk_Lay) (V2 : bk_Val) (k e : Nat), pk_Rf Y2 r → pk_FR r V2 k e → q_X12_shed_100 N Y2 N V2 r (nI L) = q_X12_shed_169 N Y2 V2 r := by
    intro Y2 V2 k e hS hf
    rw [← pr_121F (N := N) (x := nI L) hS hf]
    show q_X12_shed_100 N Y2 N V2 r (nI L) = _
    obtain ⟨N', hN'⟩ : ∃ N', N = N' + 1 := ⟨N - 1, by omega⟩
    rw [show q_X12_shed_100 N Y2 N V2 r (nI L) = q_X12_shed_100 N Y2 (N' + 1) V2 r (nI L) by rw [← hN'], q_X12_shed_100, pk_ck hS.1, pr_goodN hS hf, pk_bs, if_pos (show nI 0 = (0 : Int32) from rfl)]
  by_cases q1 : tq_no T L (tq_e T L 0) 12 84 = 0
  rotate_left
  · refine ⟨tq_oF (tq_no T L (tq_e T L 0) 12 84) (tq_s T L (tq_e T L 0)), fun g => absurd g q1, fun V h => ?_, fun Y2 V hS h => ?_⟩
    · obtain ⟨V1, c1, c2, c3⟩ := cE V h
      have st := pc_set (N := N) (b := 0) hC c2 (by omega) (by omega) tq_D0_b
      rw [show tq_l8 0 = 12 from rfl, show tq_h8 tq_D0 0 = 84 from rfl, if_neg q1] at st
      rcases st with ⟨g, -⟩ | ⟨-, V2, d1, d2, d3⟩
      · exact absurd g q1
      · refine ⟨V2, ?_, c1.tr d2, fun g => absurd g q1, fun _ => d3.2⟩
        rw [c3, d1, pk_bd2E, if_pos rfl, d3.1]
    · obtain ⟨V2, c1, c2, c3, c4⟩ := rE Y2 V hS h
      have f2 := c3 q1
      obtain ⟨y, hy⟩ := pr_sgE (N := N) (V := bk_wI V2 r (32 + 0) (nI (tq_v T L (tq_e T L 0)))) (x := nI 59) hS
      exact ⟨_, by rw [c4, hy, pk_bs, pr_needF hS f2, pk_bs, rF Y2 _ _ _ hS f2], c1, Or.inr ⟨q1, f2⟩⟩
  obtain ⟨i0, i1, i2⟩ := tq_no0 q1
  have e3 := tq_e_gt (T := T) hL e2 i0
  have e4 := tq_e_le (T := T) hL e2
  have hD1 : pk_DB (tq_D tq_D0 0 0 (tq_v T L (tq_e T L 0))) (fun _ => []) := tq_D0_b.w0 ⟨i1, i2⟩ rfl rfl
  have cS : ∀ V, pk_LC z u V T L 0 tq_D0 (fun _ => []) (fun _ => false) → ∃ V2, pk_fW z u V V2 ∧ pk_LC z u V2 T L (tq_e T L (tq_e T L 0)) (tq_D tq_D0 0 0 (tq_v T L (tq_e T L 0))) (fun _ => []) (fun _ => false) ∧ pk_tR N Y z V = bk_bd2 (q_X8_readSign N Y V2 (z + 54) (nI 59)) fun r_53 V_54 => if r_53 = nI 0 then some (bk_rI V_54 (z + 54) 4, Y, V_54) else q_X8_tell_76 N Y V_54 (z + 54) := by
    intro V h
    obtain ⟨V1, c1, c2, c3⟩ := cE V h
    have st := pc_set (N := N) (b := 0) hC c2 (by omega) (by omega) tq_D0_b
    rw [show tq_l8 0 = 12 from rfl, show tq_h8 tq_D0 0 = 84 from rfl, if_pos q1] at st
    rcases st with ⟨-, V2, d1, d2, d3⟩ | ⟨g, -⟩
    · exact ⟨V2, c1.tr d2, d3, by rw [c3, d1, pk_bd2E, if_neg (show ¬ nI 1 = nI 0 by decide)]⟩
    · exact absurd rfl g
  by_cases q2 : tq_sn T L (tq_e T L (tq_e T L 0)) 59
  · have e5 := tq_e_gt (T := T) hL e4 (by have := q2.1; omega)
    obtain ⟨o, l1, l2, l3⟩ := pk_LF (N := N) (r := r) (D := tq_D tq_D0 0 0 (tq_v T L (tq_e T L 0))) (P := fun _ => []) (B := fun _ => false) (p := tq_e T L (tq_e T L (tq_e T L 0))) T ⟨hN, hC, hL, tq_e_le hL e4, hD1, fun _ => rfl, fun _ => rfl⟩
    refine ⟨o, l1, fun V h => ?_, fun Y2 V hS h => ?_⟩
    · obtain ⟨V2, c1, c2, c3⟩ := cS V h
      obtain ⟨V3, d1, d2, d3⟩ := (pc_sign (N := N) (c := 59) hN1 hM c2.1 (by omega)).1 q2
      rw [c3, d1, pk_bd2E, if_neg (show ¬ nI 1 = nI 0 by decide)]
      exact (l2 V3 (c2.fN d2 u2 d3)).fr (c1.tr d2.fW)
    · obtain ⟨V2, c1, c2, c3, c4⟩ := rE Y2 V hS h
      have h2 := c2 q1
      obtain ⟨V3, d1, d2, d3⟩ := pr_needY (N := N) (by omega) hS h2.1
      rw [c4, pr_sn (g := 59) hS h2.1 (by omega), pk_bs, pk_Bt q2, d1, pk_bs]
      exact (l3 Y2 V3 hS (h2.frT d2 d3 (by omega))).fr (c1.tr d2.toW)
  · refine ⟨tq_oF 1 (tq_s T L (tq_e T L (tq_e T L 0))), fun g => absurd g (by show ¬ (1 : Nat) = 0; omega), fun V h => ?_, fun Y2 V hS h => ?_⟩
    · obtain ⟨V2, c1, c2, c3⟩ := cS V h
      obtain ⟨V3, d1, d2, d3⟩ := (pc_sign (N := N) (c := 59) hN1 hM c2.1 (by omega)).2 q2
      refine ⟨V3, ?_, c1.tr d2.fW, fun g => absurd g (by show ¬ (1 : Nat) = 0; omega), fun _ => d3.2⟩
      rw [c3, d1, pk_bd2E, if_pos rfl, d3.1]
      rfl
    · obtain ⟨V2, c1, c2, c3, c4⟩ := rE Y2 V hS h
      have h2 := c2 q1
      obtain ⟨V3, d1, d2, d3, -, -⟩ := pr_needN (N := N) hS h2.1
      refine ⟨V3, ?_, c1.tr d2.toW, Or.inr ⟨by show ¬ (1 : Nat) = 0; omega, d3⟩⟩
      rw [c4, pr_sn (g := 59) hS h2.1 (by omega), pk_bs, pk_Bf q2, d1, pk_bs, rF Y2 _ _ _ hS d3]
end
