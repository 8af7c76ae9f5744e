/-! the class's rules' reader answers as the relation says -/
section
variable {N z t u s tl r a b d k n j h m l p q q0 md wa s' i f e gg v S L g lo hi w : Nat} {Y Y' : bk_Lay} {V V' V2 W : bk_Val} {x y x1 x2 x3 x4 x5 ee : Int32} {w1 w2 : Int64} {T T' R G In : Nat → Nat} {c c0 c2 : List Nat} {o : Nat × Nat × List Nat} {X : Option (Int32 × bk_Val)} {rc : bk_Val → Nat → Nat → Int32 → Option (Int32 × bk_Val)}
theorem pc_leakV (H : pk_cH N z u a h Y) (hp : pk_PC z V T L p) : q_X8_leakValueNamed N Y V (z + 54) = some (if tq_vl 0 (tq_w T L p) = 9 then -nI 1 else nI (tq_vl 0 (tq_w T L p))) := by
  have hw := tq_w_b (T := T) (L := L) (p := p)
  have hM := H.2.1
  unfold q_X8_leakValueNamed
  simp only [hM, pk_ckT, pk_bs, pk_letE, pk_bd2E, pk_bd3E, if_true, if_false, eq_self, not_true_eq_false, not_false_eq_true, true_and, and_true, Nat.not_lt_zero, Nat.zero_le, Nat.reduceEqDiff, Nat.reduceLT, Nat.reduceLeDiff, pk_ck, pc_word H hp, show (0 < 10 ∧ 10 < 36) from by omega, show (0 < 11 ∧ 11 < 36) from by omega, show (0 < 5 ∧ 5 < 36) from by omega, show (0 < 12 ∧ 12 < 36) from by omega, show (0 < 13 ∧ 13 < 36) from by omega, pk_lit, pk_B0, tq_G, List.getD_cons_succ, List.getD_cons_zero, tq_vl]
  generalize tq_w T L p = k at *
  by_cases k0 : k = 0
  · subst k0; rfl
  by_cases k1 : k = 1
  · subst k1; rfl
  by_cases k4 : k = 4
  · subst k4; rfl
  by_cases k2 : k = 2
  · subst k2; rfl
  by_cases k3 : k = 3
  · subst k3; rfl
  simp only [k0, k1, k2, k3, k4, if_false, not_false_eq_true, if_true]
theorem pc_holdsV (H : pk_cH N z u a h Y) (hp : pk_PC z V T L p) : q_X8_holdsValueNamed N Y V (z + 54) = some (if tq_vl 1 (tq_w T L p) = 9 then -nI 1 else nI (tq_vl 1 (tq_w T L p))) := by
  have hw := tq_w_b (T := T) (L := L) (p := p)
  have hM := H.2.1
  unfold q_X8_holdsValueNamed
  simp only [hM, pk_ckT, pk_bs, pk_letE, pk_bd2E, pk_bd3E, if_true, if_false, eq_self, not_true_eq_false, not_false_eq_true, true_and, and_true, Nat.not_lt_zero, Nat.zero_le, Nat.reduceEqDiff, Nat.reduceLT, Nat.reduceLeDiff, pk_ck, pc_word H hp, show (0 < 10 ∧ 10 < 36) from by omega, show (0 < 11 ∧ 11 < 36) from by omega, show (0 < 14 ∧ 14 < 36) from by omega, show (0 < 15 ∧ 15 < 36) from by omega, show (0 < 16 ∧ 16 < 36) from by omega, show (0 < 17 ∧ 17 < 36) from by omega, pk_lit, pk_B0, tq_G, List.getD_cons_succ, List.getD_cons_zero, tq_vl]
  generalize tq_w T L p = k at *
  by_cases k0 : k = 0
  · subst k0; rfl
  by_cases k1 : k = 1
  · subst k1; rfl
  by_cases k4 : k = 5
  · subst k4; rfl
  by_cases k2 : k = 6
  · subst k2; rfl
  by_cases k3 : k = 7
  · subst k3; rfl
  by_cases k8 : k = 8
  · subst k8; rfl
  simp only [k0, k1, k2, k3, k4, k8, if_false, not_false_eq_true, if_true, Nat.succ_ne_zero, show ((1 : Nat) = 0) = False from by simp]
theorem tq_vl_b : tq_vl h k ≤ 9 := by
  unfold tq_vl
  split <;> (repeat' split) <;> omega
theorem pc_refX (H : pk_cH N z u a h Y) (hp : pk_sC z a V T L p c0) (hk : k ≠ 0) : pk_gX z a T L V c0 (bk_bd2 (q_X8_refuse N Y V (z + 54) (nI k)) (fun r V2 => bk_ck (r = nI 0 ∨ r = nI 1) (some (r, V2)))) (k, tq_s T L p, []) := by
  obtain ⟨V', e1, e2, e3⟩ := pc_refuse8 (N := N) (k := k) H.2.1 hp.1
  refine Or.inr ⟨hk, V', ?_, e2.fX H.ha.1, e3⟩
  rw [e1, pk_bd2E, pk_ck (Or.inl rfl)]
theorem pc_78 (H : pk_cH N z u a h Y) (hL : L ≤ 700) (hp : pk_sC z a V T L p c0) (hk : tq_k T L p = 1) (hv : v ≤ 9) (hr : o = if v = 9 then (3, tq_s T L p, []) else (0, tq_e T L p, [10000 + v])) : pk_gX z a T L V c0 (q_X8_readPart_78 N Y rc V (z + 54) a (if v = 9 then -nI 1 else nI v)) o := by
  have hM := H.2.1
  have hpp := hp.1.2.2.1
  obtain ⟨s1, s2, s3⟩ := H.sh
  by_cases c9 : v = 9
  · rw [if_pos c9] at hr ⊢
    subst hr
    have := pc_refX H hp (k := 3) (by omega)
    unfold q_X8_readPart_78
    rw [if_pos (show -nI 1 = -1 from rfl)]
    simp only [hM, pk_ckT, pk_bs, pk_letE, pk_bd2E, pk_bd3E, if_true, if_false, eq_self, not_true_eq_false, not_false_eq_true, true_and, and_true, Nat.not_lt_zero, Nat.zero_le, Nat.reduceEqDiff, Nat.reduceLT, Nat.reduceLeDiff, pk_ck]
    exact this
  · rw [if_neg c9] at hr ⊢
    subst hr
    have e1 := tq_e_gt (T := T) hL hpp (by omega)
    have e2 := tq_e_le (T := T) hL hpp
    have hs : pk_sC z a V T L p c0 := hp
    have hln := hp.2.2
    obtain ⟨V1, b1, b2, b3, b4⟩ := pc_putA (e := 10000 + v) H hp.1 hp.2.1 (by omega)
    obtain ⟨V2, g1, g2, g3⟩ := pc_goes (N := N) H.1 hM b3
    refine Or.inl ⟨rfl, V2, ?_, b2.tr (g2.fN.fX H.ha.1), g3, b4.of (g2.2 a (by have := H.ha; omega)) (g2.2 (a + 1) (by have := H.ha; omega)), ?_⟩
    · unfold q_X8_readPart_78
      rw [if_neg (show ¬ nI v = -1 from (fun g => (pk_eqm1 (by omega)).mp g))]
      unfold q_X4_putValue
      rw [show pk_cs (10000 + v) = nI (10000 + v) from if_pos (by omega)] at b1
      simp (disch := omega) only [hM, s1, pk_ckT, pk_bs, pk_letE, pk_bd2E, pk_bd3E, if_true, if_false, eq_self, not_true_eq_false, not_false_eq_true, true_and, and_true, Nat.not_lt_zero, Nat.zero_le, Nat.reduceEqDiff, Nat.reduceLT, Nat.reduceLeDiff, pk_ck, pk_lit, nI_add, b1, g1]
    · have := hp.2.2
      rw [List.length_append]
      show c0.length + 1 ≤ tq_e T L p
      omega
theorem pc_rPart (H : pk_cH N z u a h Y) (hL : L ≤ 700) (hrc : ∀ p, p ≤ L → pk_cR z a T L h 1 (w + 1) 0 (fun V => rc V (z + 54) a (nI (w + 1))) p) (hw : w < 6) (hp : p ≤ L) : pk_cR z a T L h 7 w 0 (fun V => q_X8_readPart N Y rc V (z + 54) a (nI w)) p := by
  have hM := H.2.1
  have hS := H.2.2.1
  have hi := H.2.2.2.1
  obtain ⟨s1, s2, s3⟩ := H.sh
  have kb := tq_k_b (T := T) (L := L) (p := p)
  have e0 : ∀ V c0, pk_sC z a V T L p c0 → q_X8_readPart N Y rc V (z + 54) a (nI w) = if ¬ tq_sn T L p 40 then (if tq_k T L p = 1 then q_X8_readPart_78 N Y rc V (z + 54) a (if tq_vl h (tq_w T L p) = 9 then -nI 1 else nI (tq_vl h (tq_w T L p))) else bk_bd2 (q_X8_readNumber N Y V (z + 54) (nI 0) (nI 9999)) fun r_22 V_23 => if r_22 = nI 0 then some (nI 0, V_23) else (q_X4_put N Y V_23 a (bk_rI V_23 (z + 54) 3)).bind fun V_25 => some (nI 1, V_25)) else (q_X9_step N Y V (z + 55)).bind fun V_40 => bk_bd2 (rc V_40 (z + 54) a (nI (w + 1))) fun r_42 V_43 => if r_42 = nI 0 then some (nI 0, V_43) else bk_bd2 (q_X8_readSign N Y V_43 (z + 54) (nI 41)) fun r_45 V_46 => if r_45 = nI 0 then some (nI 0, V_46) else some (nI 1, V_46) := by
    intro V c0 hs
    have e4 := hs.1.2.1.2.2.2
    have es := pc_isSign (N := N) (c := 40) hM hs.1 (by omega)
    have el : (if some a = some (u + 15) then (q_X8_leakValueNamed N Y V (z + 54)).bind (fun r_36 => q_X8_readPart_78 N Y rc V (z + 54) a r_36) else (q_X8_holdsValueNamed N Y V (z + 54)).bind (fun r_34 => q_X8_readPart_78 N Y rc V (z + 54) a r_34)) = q_X8_readPart_78 N Y rc V (z + 54) a (if tq_vl h (tq_w T L p) = 9 then -nI 1 else nI (tq_vl h (tq_w T L p))) := by
      have ⟨_, _, _, _, h1, h2, h3, h4⟩ := H
      rcases (show h = 0 ∨ h = 1 by omega) with q | q
      · rw [if_pos (by rw [h3, q]), pc_leakV H hs.1, pk_bs, q]
      · rw [if_neg (by rw [h3, q]; intro g; have := Option.some.inj g; omega), pc_holdsV H hs.1, pk_bs, q]
    unfold q_X8_readPart
    simp (disch := omega) only [hM, hS, hi, s1, pk_ckT, pk_bs, pk_letE, pk_bd2E, pk_bd3E, if_true, if_false, eq_self, not_true_eq_false, not_false_eq_true, true_and, and_true, Nat.not_lt_zero, Nat.zero_le, Nat.reduceEqDiff, Nat.reduceLT, Nat.reduceLeDiff, pk_ck, pk_lit, es, pk_B0, e4, nI_eq, nI_add, el]
  by_cases c40 : tq_sn T L p 40
  · have e1 := tq_e_gt (T := T) hL hp (by omega)
    have e2 := tq_e_le (T := T) hL hp
    obtain ⟨⟨ok, p', c2⟩, r1, r2⟩ := hrc (tq_e T L p) e2
    have hst : ∀ V c0, pk_sC z a V T L p c0 → ∃ V1, q_X9_step N Y V (z + 55) = some V1 ∧ pk_fX z a V V1 ∧ pk_sC z a V1 T L (tq_e T L p) c0 := by
      intro V c0 hs
      obtain ⟨V1, g1, g2, g3⟩ := pc_goes (N := N) H.1 H.2.1 hs.1
      exact ⟨V1, g1, g2.fN.fX H.ha.1, hs.fN g2.fN H.ha.1 g3 (by omega)⟩
    rcases ok with _ | k
    · have rp := tq_R_p hL r1 e2 rfl
      simp only [List.length_nil] at rp
      by_cases c41 : tq_sn T L p' 41
      · refine ⟨_, tq_R.par c40 r1 c41, fun V c0 hs => ?_⟩
        obtain ⟨V1, g1, g2, g3⟩ := hst V c0 hs
        show pk_gX z a T L V c0 (q_X8_readPart N Y rc V (z + 54) a (nI w)) _
        rw [e0 V c0 hs, if_neg (fun g => g c40), g1, pk_bs]
        rcases r2 V1 _ g3 with ⟨-, V2, t1, t2, t3⟩ | ⟨t0, -⟩
        · obtain ⟨V3, b1, b2, b3⟩ := (pc_sign (N := N) (c := 41) H.1 hM t3.1 (by omega)).1 c41
          refine Or.inl ⟨rfl, V3, ?_, (g2.tr t2).tr (b2.fX H.ha.1), t3.fN b2 H.ha.1 b3 (by have := tq_e_gt (T := T) (p := p') hL rp.2.1 (by omega); show p' ≤ tq_e T L p'; omega)⟩
          rw [show rc V1 (z + 54) a (nI (w + 1)) = _ from t1, pk_bd2E, if_neg (show ¬ nI 1 = nI 0 by decide), b1, pk_bd2E, if_neg (show ¬ nI 1 = nI 0 by decide)]
        · exact absurd rfl t0
      · refine ⟨_, tq_R.parN c40 r1 c41, fun V c0 hs => ?_⟩
        obtain ⟨V1, g1, g2, g3⟩ := hst V c0 hs
        show pk_gX z a T L V c0 (q_X8_readPart N Y rc V (z + 54) a (nI w)) _
        rw [e0 V c0 hs, if_neg (fun g => g c40), g1, pk_bs]
        rcases r2 V1 _ g3 with ⟨-, V2, t1, t2, t3⟩ | ⟨t0, -⟩
        · obtain ⟨V3, b1, b2, b3⟩ := (pc_sign (N := N) (c := 41) H.1 hM t3.1 (by omega)).2 c41
          refine Or.inr ⟨by simp, V3, ?_, (g2.tr t2).tr (b2.fX H.ha.1), b3⟩
          rw [show rc V1 (z + 54) a (nI (w + 1)) = _ from t1, pk_bd2E, if_neg (show ¬ nI 1 = nI 0 by decide), b1, pk_bd2E, if_pos rfl]
        · exact absurd rfl t0
    · refine ⟨_, tq_R.parF c40 r1, fun V c0 hs => ?_⟩
      obtain ⟨V1, g1, g2, g3⟩ := hst V c0 hs
      show pk_gX z a T L V c0 (q_X8_readPart N Y rc V (z + 54) a (nI w)) _
      rw [e0 V c0 hs, if_neg (fun g => g c40), g1, pk_bs]
      rcases r2 V1 _ g3 with ⟨t0, -⟩ | ⟨t0, V2, t1, t2, t3⟩
      · exact absurd t0 (by simp)
      · refine Or.inr ⟨t0, V2, ?_, g2.tr t2, t3⟩
        rw [show rc V1 (z + 54) a (nI (w + 1)) = _ from t1, pk_bd2E, if_pos rfl]
  by_cases k1 : tq_k T L p = 1
  · by_cases c9 : tq_vl h (tq_w T L p) = 9
    · refine ⟨_, tq_R.valF k1 c9, fun V c0 hs => ?_⟩
      show pk_gX z a T L V c0 (q_X8_readPart N Y rc V (z + 54) a (nI w)) _
      rw [e0 V c0 hs, if_pos c40, if_pos k1]
      exact pc_78 H hL hs k1 tq_vl_b (by rw [if_pos c9])
    · refine ⟨_, tq_R.val k1 (by have := tq_vl_b (h := h) (k := tq_w T L p); omega), fun V c0 hs => ?_⟩
      show pk_gX z a T L V c0 (q_X8_readPart N Y rc V (z + 54) a (nI w)) _
      rw [e0 V c0 hs, if_pos c40, if_pos k1]
      exact pc_78 H hL hs k1 tq_vl_b (by rw [if_neg c9])
  have hv := tq_v_lt (T := T) hL hp
  by_cases c0' : tq_no T L p 0 9999 = 0
  · have k2 : tq_k T L p = 2 ∧ tq_e T L p - tq_s T L p ≤ 4 := by
      unfold tq_no at c0'
      by_cases q : tq_k T L p = 2
      · rw [if_pos q] at c0'
        by_cases q2 : tq_e T L p - tq_s T L p ≤ 4
        · exact ⟨q, q2⟩
        · rw [if_neg (fun g => q2 g.1)] at c0'; omega
      · rw [if_neg q] at c0'; omega
    refine ⟨_, tq_R.num k2.1 k2.2, fun V c0 hs => ?_⟩
    show pk_gX z a T L V c0 (q_X8_readPart N Y rc V (z + 54) a (nI w)) _
    rw [e0 V c0 hs, if_pos c40, if_neg k1]
    have e1 := tq_e_gt (T := T) hL hp (by omega)
    obtain ⟨V1, g1, g2, g3, g4⟩ := (pc_num (N := N) (lo := 0) (hi := 9999) H.1 hM hs.1 (by omega) (by omega)).1 c0'
    have hs1 := hs.fN g2 H.ha.1 g4 (by omega)
    obtain ⟨V2, b1, b2, b3⟩ := pc_put (e := tq_v T L p) (q := tq_e T L p) H hs1 (by have := hs.2.2; omega) (Nat.le_refl _) hL
    rw [show pk_cs (tq_v T L p) = nI (tq_v T L p) from if_pos (by omega)] at b1
    refine Or.inl ⟨rfl, V2, ?_, (g2.fX H.ha.1).tr b2, b3⟩
    rw [g1, pk_bd2E, if_neg (show ¬ nI 1 = nI 0 by decide), g3, b1, pk_bs]
  · have hX : ∀ V c0, pk_sC z a V T L p c0 → pk_gX z a T L V c0 (q_X8_readPart N Y rc V (z + 54) a (nI w)) (tq_no T L p 0 9999, tq_s T L p, []) := by
      intro V c0 hs
      rw [e0 V c0 hs, if_pos c40, if_neg k1]
      obtain ⟨V1, g1, g2, g3⟩ := (pc_num (N := N) (lo := 0) (hi := 9999) H.1 hM hs.1 (by omega) (by omega)).2 c0'
      refine Or.inr ⟨c0', V1, ?_, g2.fX H.ha.1, g3⟩
      rw [g1, pk_bd2E, if_pos rfl]
    unfold tq_no at hX c0'
    by_cases q : tq_k T L p = 2
    · rw [if_pos q] at c0'
      by_cases q2 : tq_e T L p - tq_s T L p ≤ 4 ∧ 0 ≤ tq_v T L p ∧ tq_v T L p ≤ 9999
      · rw [if_pos q2] at c0'; omega
      · rw [if_pos q, if_neg q2] at hX
        exact ⟨_, tq_R.numF q (by omega), hX⟩
    · rw [if_neg q] at hX
      exact ⟨_, tq_R.bad q k1 c40, hX⟩
theorem pc_rProd (H : pk_cH N z u a h Y) (hL : L ≤ 700) (hQ : ∀ p, p ≤ L → pk_cR z a T L h 7 w 0 (fun V => q_X8_readPart N Y rc V (z + 54) a (nI w)) p) (hp : p ≤ L) : pk_cR z a T L h 26 w 0 (fun V => q_X8_readProduct N Y rc V (z + 54) a (nI w)) p := by
  have hM := H.2.1
  obtain ⟨s1, s2, s3⟩ := H.sh
  refine pc_level (l := 6) H hL (Or.inr (Or.inr (Or.inr rfl))) (fun V => q_X8_readPart N Y rc V (z + 54) a (nI w)) hQ (fun f V i => q_X8_readProduct_13 N Y rc f V (z + 54) a (nI w) i) ?_ ?_ hp _ ?_
  · intro f V i p hp hi ho
    have o6 : (if tq_sn T L p 42 then 8 else if tq_sn T L p 47 then 9 else 0) = 0 := ho
    have n1 : ¬ tq_sn T L p 42 := fun g => by rw [if_pos g] at o6; omega
    have n2 : ¬ tq_sn T L p 47 := fun g => by rw [if_neg n1, if_pos g] at o6; omega
    have i1 := pc_isSign (N := N) (c := 42) hM hp (by omega)
    have i2 := pc_isSign (N := N) (c := 47) hM hp (by omega)
    show q_X8_readProduct_13 N Y rc (f + 1) V (z + 54) a (nI w) (nI i) = _
    rw [q_X8_readProduct_13]
    simp (disch := omega) only [hM, pk_ckT, pk_bs, pk_letE, pk_bd2E, pk_bd3E, if_true, if_false, eq_self, not_true_eq_false, not_false_eq_true, true_and, and_true, Nat.not_lt_zero, Nat.zero_le, Nat.reduceEqDiff, Nat.reduceLT, Nat.reduceLeDiff, pk_ck, pk_lit, i1, i2, pk_B0, n1, n2, ite_self]
  · intro f V i p hp hi ho
    have i1 := pc_isSign (N := N) (c := 42) hM hp (by omega)
    have i2 := pc_isSign (N := N) (c := 47) hM hp (by omega)
    have oe : tq_o T L 6 p = if tq_sn T L p 42 then 8 else if tq_sn T L p 47 then 9 else 0 := rfl
    show q_X8_readProduct_13 N Y rc (f + 1) V (z + 54) a (nI w) (nI i) = _
    rw [q_X8_readProduct_13, if_neg (show ¬ (700 : Int32) ≤ nI i from (show ¬ nI 700 ≤ nI i by rw [nI_leI (by omega) (by omega)]; omega))]
    by_cases n1 : tq_sn T L p 42
    · rw [oe, if_pos n1]
      simp (disch := omega) only [hM, s1, pk_ckT, pk_bs, pk_letE, pk_bd2E, pk_bd3E, if_true, if_false, eq_self, not_true_eq_false, not_false_eq_true, true_and, and_true, Nat.not_lt_zero, Nat.zero_le, Nat.reduceEqDiff, Nat.reduceLT, Nat.reduceLeDiff, pk_ck, pk_lit, i1, pk_B0, n1, q_X8_readProduct_44, q_X8_readProduct_63, nI_add]
    · have n2 : tq_sn T L p 47 := by
        by_cases g : tq_sn T L p 47
        · exact g
        · rw [oe, if_neg n1, if_neg g] at ho; exact absurd rfl ho
      rw [oe, if_neg n1, if_pos n2]
      simp (disch := omega) only [hM, s1, pk_ckT, pk_bs, pk_letE, pk_bd2E, pk_bd3E, if_true, if_false, eq_self, not_true_eq_false, not_false_eq_true, true_and, and_true, Nat.not_lt_zero, Nat.zero_le, Nat.reduceEqDiff, Nat.reduceLT, Nat.reduceLeDiff, pk_ck, pk_lit, i1, i2, pk_B0, n1, n2, q_X8_readProduct_44, q_X8_readProduct_63, nI_add]
  · intro V
    unfold q_X8_readProduct
    simp only [hM, pk_ckT, pk_bs, pk_letE, pk_bd2E, pk_bd3E, if_true, if_false, eq_self, not_true_eq_false, not_false_eq_true, true_and, and_true, Nat.not_lt_zero, Nat.zero_le, Nat.reduceEqDiff, Nat.reduceLT, Nat.reduceLeDiff, pk_ck, pk_lit]
theorem pc_rSum (H : pk_cH N z u a h Y) (hL : L ≤ 700) (hQ : ∀ p, p ≤ L → pk_cR z a T L h 26 w 0 (fun V => q_X8_readProduct N Y rc V (z + 54) a (nI w)) p) (hp : p ≤ L) : pk_cR z a T L h 25 w 0 (fun V => q_X8_readSum N Y rc V (z + 54) a (nI w)) p := by
  have hM := H.2.1
  obtain ⟨s1, s2, s3⟩ := H.sh
  refine pc_level (l := 5) H hL (Or.inr (Or.inr (Or.inl rfl))) (fun V => q_X8_readProduct N Y rc V (z + 54) a (nI w)) hQ (fun f V i => q_X8_readSum_13 N Y rc f V (z + 54) a (nI w) i) ?_ ?_ hp _ ?_
  · intro f V i p hp hi ho
    have o6 : (if tq_sn T L p 43 then 6 else if tq_sn T L p 45 then 7 else 0) = 0 := ho
    have n1 : ¬ tq_sn T L p 43 := fun g => by rw [if_pos g] at o6; omega
    have n2 : ¬ tq_sn T L p 45 := fun g => by rw [if_neg n1, if_pos g] at o6; omega
    have i1 := pc_isSign (N := N) (c := 43) hM hp (by omega)
    have i2 := pc_isSign (N := N) (c := 45) hM hp (by omega)
    show q_X8_readSum_13 N Y rc (f + 1) V (z + 54) a (nI w) (nI i) = _
    rw [q_X8_readSum_13]
    simp (disch := omega) only [hM, pk_ckT, pk_bs, pk_letE, pk_bd2E, pk_bd3E, if_true, if_false, eq_self, not_true_eq_false, not_false_eq_true, true_and, and_true, Nat.not_lt_zero, Nat.zero_le, Nat.reduceEqDiff, Nat.reduceLT, Nat.reduceLeDiff, pk_ck, pk_lit, i1, i2, pk_B0, n1, n2, ite_self]
  · intro f V i p hp hi ho
    have i1 := pc_isSign (N := N) (c := 43) hM hp (by omega)
    have i2 := pc_isSign (N := N) (c := 45) hM hp (by omega)
    have oe : tq_o T L 5 p = if tq_sn T L p 43 then 6 else if tq_sn T L p 45 then 7 else 0 := rfl
    show q_X8_readSum_13 N Y rc (f + 1) V (z + 54) a (nI w) (nI i) = _
    rw [q_X8_readSum_13, if_neg (show ¬ (700 : Int32) ≤ nI i from (show ¬ nI 700 ≤ nI i by rw [nI_leI (by omega) (by omega)]; omega))]
    by_cases n1 : tq_sn T L p 43
    · rw [oe, if_pos n1]
      simp (disch := omega) only [hM, s1, pk_ckT, pk_bs, pk_letE, pk_bd2E, pk_bd3E, if_true, if_false, eq_self, not_true_eq_false, not_false_eq_true, true_and, and_true, Nat.not_lt_zero, Nat.zero_le, Nat.reduceEqDiff, Nat.reduceLT, Nat.reduceLeDiff, pk_ck, pk_lit, i1, pk_B0, n1, q_X8_readSum_44, q_X8_readSum_63, nI_add]
    · have n2 : tq_sn T L p 45 := by
        by_cases g : tq_sn T L p 45
        · exact g
        · rw [oe, if_neg n1, if_neg g] at ho; exact absurd rfl ho
      rw [oe, if_neg n1, if_pos n2]
      simp (disch := omega) only [hM, s1, pk_ckT, pk_bs, pk_letE, pk_bd2E, pk_bd3E, if_true, if_false, eq_self, not_true_eq_false, not_false_eq_true, true_and, and_true, Nat.not_lt_zero, Nat.zero_le, Nat.reduceEqDiff, Nat.reduceLT, Nat.reduceLeDiff, pk_ck, pk_lit, i1, i2, pk_B0, n1, n2, q_X8_readSum_44, q_X8_readSum_63, nI_add]
  · intro V
    unfold q_X8_readSum
    simp only [hM, pk_ckT, pk_bs, pk_letE, pk_bd2E, pk_bd3E, if_true, if_false, eq_self, not_true_eq_false, not_false_eq_true, true_and, and_true, Nat.not_lt_zero, Nat.zero_le, Nat.reduceEqDiff, Nat.reduceLT, Nat.reduceLeDiff, pk_ck, pk_lit]
theorem pc_rTest (H : pk_cH N z u a h Y) (hL : L ≤ 700) (hQ : ∀ p, p ≤ L → pk_cR z a T L h 25 w 0 (fun V => q_X8_readSum N Y rc V (z + 54) a (nI w)) p) (hp : p ≤ L) : pk_cR z a T L h 4 w 0 (fun V => q_X8_readTest N Y rc V (z + 54) a (nI w)) p := by
  have hM := H.2.1
  obtain ⟨s1, s2, s3⟩ := H.sh
  obtain ⟨⟨ok, p', c1⟩, r1, r2⟩ := hQ p hp
  rcases ok with _ | k
  · have rp := tq_R_p hL r1 hp rfl
    simp only [List.length_nil] at rp
    have e0 : ∀ V c0, pk_sC z a V T L p c0 → ∃ V2, pk_fX z a V V2 ∧ pk_sC z a V2 T L p' (c0 ++ c1) ∧ q_X8_readTest N Y rc V (z + 54) a (nI w) = if tq_o T L 4 p' = 0 then some (nI 1, V2) else q_X8_readTest_51 N Y rc V2 (z + 54) a (nI w) (-nI (tq_o T L 4 p')) := by
      intro V c0 hs
      rcases r2 V _ hs with ⟨-, V2, t1, t2, t3⟩ | ⟨t0, -⟩
      · refine ⟨V2, t2, t3, ?_⟩
        have i1 := pc_isSign (N := N) (c := 60) hM t3.1 (by omega)
        have i2 := pc_isSign (N := N) (c := 61) hM t3.1 (by omega)
        have oe : tq_o T L 4 p' = if tq_sn T L p' 60 then 4 else if tq_sn T L p' 61 then 5 else 0 := rfl
        have t1' : q_X8_readSum N Y rc V (z + 54) a (nI w) = some (nI 1, V2) := t1
        unfold q_X8_readTest
        simp (disch := omega) only [hM, pk_ckT, pk_bs, pk_letE, pk_bd2E, pk_bd3E, if_true, if_false, eq_self, not_true_eq_false, not_false_eq_true, true_and, and_true, Nat.not_lt_zero, Nat.zero_le, Nat.reduceEqDiff, Nat.reduceLT, Nat.reduceLeDiff, pk_ck, pk_lit, t1', i1, pk_B0, show (nI 1 = nI 0) = False from by decide]
        rw [oe]
        by_cases n1 : tq_sn T L p' 60
        · rw [if_neg (fun g => g n1), if_pos n1, if_neg (by omega)]
          unfold q_X8_readTest_30
          rw [if_neg (by decide)]
        · rw [if_pos n1, if_neg n1]
          unfold q_X8_readTest_30
          rw [if_pos (show -nI 5 = -5 from rfl)]
          simp (disch := omega) only [hM, pk_ckT, pk_bs, pk_letE, pk_bd2E, pk_bd3E, if_true, if_false, eq_self, not_true_eq_false, not_false_eq_true, true_and, and_true, Nat.not_lt_zero, Nat.zero_le, Nat.reduceEqDiff, Nat.reduceLT, Nat.reduceLeDiff, pk_ck, pk_lit, i2, pk_B0]
          by_cases n2 : tq_sn T L p' 61
          · rw [if_neg (fun g => g n2), if_pos n2, if_neg (by omega)]
          · rw [if_pos n2, if_neg n2, if_pos rfl]
      · exact absurd rfl t0
    by_cases q : tq_o T L 4 p' = 0
    · refine ⟨_, tq_R.t0 r1 q, fun V c0 hs => ?_⟩
      obtain ⟨V2, y1, y2, y3⟩ := e0 V c0 hs
      rw [if_pos q] at y3
      exact Or.inl ⟨rfl, V2, y3, y1, y2⟩
    obtain ⟨k0, k1, k2, k3⟩ := tq_o_k q
    have e1 := tq_e_gt (T := T) hL rp.2.1 k0
    have e2 := tq_e_le (T := T) hL rp.2.1
    have e51 : ∀ V x, q_X8_readTest_51 N Y rc V (z + 54) a (nI w) x = (q_X9_step N Y V (z + 55)).bind fun V_5 => bk_bd2 (q_X8_readSum N Y rc V_5 (z + 54) a (nI w)) fun r_8 V_9 => if r_8 = nI 0 then some (nI 0, V_9) else (q_X4_put N Y V_9 a x).bind fun V_11 => some (nI 1, V_11) := by
      intro V x
      unfold q_X8_readTest_51
      simp (disch := omega) only [hM, s1, pk_ckT, pk_bs, pk_letE, pk_bd2E, pk_bd3E, if_true, if_false, eq_self, not_true_eq_false, not_false_eq_true, true_and, and_true, Nat.not_lt_zero, Nat.zero_le, Nat.reduceEqDiff, Nat.reduceLT, Nat.reduceLeDiff, pk_ck, pk_lit]
    obtain ⟨⟨ok, p2, c2⟩, v1, v2⟩ := hQ (tq_e T L p') e2
    rcases ok with _ | k
    · have vp := tq_R_p hL v1 e2 rfl
      simp only [List.length_nil] at vp
      refine ⟨_, tq_R.t1 r1 q v1, fun V c0 hs => ?_⟩
      obtain ⟨V2, y1, y2, y3⟩ := e0 V c0 hs
      obtain ⟨V3, g1, g2, g3⟩ := pc_goes (N := N) H.1 hM y2.1
      have hs1 := y2.fN (V' := V3) g2.fN H.ha.1 g3 (by omega)
      rcases v2 V3 _ hs1 with ⟨-, V4, t1, t2, t3⟩ | ⟨t0, -⟩
      · have hln := y2.2.2
        obtain ⟨V5, b1, b2, b3⟩ := pc_put (e := 20000 + tq_o T L 4 p') (q := p2) H t3 (by rw [List.length_append]; show (c0 ++ c1).length + c2.length + 1 ≤ p2; omega) (Nat.le_refl _) hL
        rw [show pk_cs (20000 + tq_o T L 4 p') = -nI (tq_o T L 4 p') by unfold pk_cs; rw [if_neg (by omega), Nat.add_sub_cancel_left]] at b1
        have t1' : q_X8_readSum N Y rc V3 (z + 54) a (nI w) = some (nI 1, V4) := t1
        refine Or.inl ⟨rfl, V5, ?_, ((y1.tr (g2.fN.fX H.ha.1)).tr t2).tr b2, by simp only [List.append_assoc] at b3 ⊢; exact b3⟩
        show q_X8_readTest N Y rc V (z + 54) a (nI w) = _
        rw [y3, if_neg q, e51, g1, pk_bs, t1', pk_bd2E, if_neg (show ¬ nI 1 = nI 0 by decide), b1, pk_bs]
      · exact absurd rfl t0
    · refine ⟨_, tq_R.t1F r1 q v1, fun V c0 hs => ?_⟩
      obtain ⟨V2, y1, y2, y3⟩ := e0 V c0 hs
      obtain ⟨V3, g1, g2, g3⟩ := pc_goes (N := N) H.1 hM y2.1
      have hs1 := y2.fN (V' := V3) g2.fN H.ha.1 g3 (by omega)
      rcases v2 V3 _ hs1 with ⟨t0, -⟩ | ⟨t0, V4, t1, t2, t3⟩
      · exact absurd t0 (by simp)
      · have t1' : q_X8_readSum N Y rc V3 (z + 54) a (nI w) = some (nI 0, V4) := t1
        refine Or.inr ⟨t0, V4, ?_, (y1.tr (g2.fN.fX H.ha.1)).tr t2, t3⟩
        show q_X8_readTest N Y rc V (z + 54) a (nI w) = _
        rw [y3, if_neg q, e51, g1, pk_bs, t1', pk_bd2E, if_pos rfl]
  · refine ⟨_, tq_R.tF r1, fun V c0 hs => ?_⟩
    rcases r2 V _ hs with ⟨t0, -⟩ | ⟨t0, V2, t1, t2, t3⟩
    · exact absurd t0 (by simp)
    · have t1' : q_X8_readSum N Y rc V (z + 54) a (nI w) = some (nI 0, V2) := t1
      refine Or.inr ⟨t0, V2, ?_, t2, t3⟩
      show q_X8_readTest N Y rc V (z + 54) a (nI w) = _
      unfold q_X8_readTest
      simp only [hM, pk_ckT, pk_bs, pk_letE, pk_bd2E, pk_bd3E, if_true, if_false, eq_self, not_true_eq_false, not_false_eq_true, true_and, and_true, Nat.not_lt_zero, Nat.zero_le, Nat.reduceEqDiff, Nat.reduceLT, Nat.reduceLeDiff, pk_ck, pk_lit, t1']
theorem pc_n65 (H : pk_cH N z u a h Y) (hL : L ≤ 700) (hn : n ≤ 6) : ∀ m i f V c, i + m = n → m < f → pk_sC z a V T L p c → c.length + m ≤ p → ∃ V', q_X8_readNot_65 N Y rc f V a (nI n) (nI i) = some (nI 1, V') ∧ pk_fX z a V V' ∧ pk_sC z a V' T L p (c ++ List.replicate m 20003) := by
  obtain ⟨s1, s2, s3⟩ := H.sh
  intro m
  induction m with
  | zero =>
    intro i f V c hi hf hs hl
    refine ⟨V, ?_, pk_fX.rf, by rw [List.replicate_zero, List.append_nil]; exact hs⟩
    rw [show f = f - 1 + 1 by omega, q_X8_readNot_65, if_pos (show nI n ≤ nI i by rw [nI_leI (by omega) (by omega)]; omega)]
    rfl
  | succ m ih =>
    intro i f V c hi hf hs hl
    obtain ⟨V1, b1, b2, b3⟩ := pc_put (e := 20003) (q := p) H hs (by omega) (Nat.le_refl _) hL
    obtain ⟨V2, y1, y2, y3⟩ := ih (i + 1) (f - 1) V1 (c ++ [20003]) (by omega) (by omega) b3 (by rw [List.length_append]; show c.length + 1 + m ≤ p; omega)
    refine ⟨V2, ?_, b2.tr y2, ?_⟩
    · rw [show f = f - 1 + 1 by omega, q_X8_readNot_65, if_neg (show ¬ nI n ≤ nI i by rw [nI_leI (by omega) (by omega)]; omega), pk_ck s1, show q_X4_put N Y V a (-3) = some V1 from b1, pk_bs, ← y1]
      simp (disch := omega) only [pk_lit, nI_add]
    · rw [List.append_assoc] at y3
      exact y3
theorem pc_n33 (H : pk_cH N z u a h Y) (hL : L ≤ 700) (hQ : ∀ p, p ≤ L → pk_cR z a T L h 4 w 0 (fun V => q_X8_readTest N Y rc V (z + 54) a (nI w)) p) (hp : p ≤ L) (hn : n ≤ 6) (hw : tq_w T L p ≠ 34) : ∃ o, tq_R T L h 3 w p n [] o ∧ ∀ V c0, pk_sC z a V T L p c0 → c0.length + n ≤ p → pk_gX z a T L V c0 (q_X8_readNot_33 N Y rc V (z + 54) a (nI w) (nI n)) o := by
  have hM := H.2.1
  have hN := H.1
  have e0 : ∀ V c0, pk_sC z a V T L p c0 → q_X8_readNot_33 N Y rc V (z + 54) a (nI w) (nI n) = bk_bd2 (q_X8_readTest N Y rc V (z + 54) a (nI w)) fun r_12 V_13 => if r_12 = nI 0 then some (nI 0, V_13) else q_X8_readNot_65 N Y rc N V_13 a (nI n) (nI 0) := by
    intro V c0 hs
    have i1 : q_X9_isWord N Y V (z + 55) 9 = some (pk_B (tq_w T L p = 34)) := pc_word H hs.1 (g := 9) (by omega)
    unfold q_X8_readNot_33
    simp only [hM, pk_ckT, pk_bs, pk_letE, pk_bd2E, pk_bd3E, if_true, if_false, eq_self, not_true_eq_false, not_false_eq_true, true_and, and_true, Nat.not_lt_zero, Nat.zero_le, Nat.reduceEqDiff, Nat.reduceLT, Nat.reduceLeDiff, pk_ck, pk_lit, i1, pk_B0, hw]
  obtain ⟨⟨ok, p', c1⟩, r1, r2⟩ := hQ p hp
  rcases ok with _ | k
  · have rp := tq_R_p hL r1 hp rfl
    simp only [List.length_nil] at rp
    refine ⟨_, tq_R.tst hw hn r1, fun V c0 hs hl => ?_⟩
    rw [e0 V c0 hs]
    rcases r2 V _ hs with ⟨-, V2, t1, t2, t3⟩ | ⟨t0, -⟩
    · have t1' : q_X8_readTest N Y rc V (z + 54) a (nI w) = some (nI 1, V2) := t1
      obtain ⟨V3, y1, y2, y3⟩ := pc_n65 (rc := rc) H hL hn n 0 N V2 (c0 ++ c1) (by omega) (by omega) t3 (by rw [List.length_append]; show c0.length + c1.length + n ≤ p'; omega)
      refine Or.inl ⟨rfl, V3, ?_, t2.tr y2, by rw [List.append_assoc] at y3; exact y3⟩
      rw [t1', pk_bd2E, if_neg (show ¬ nI 1 = nI 0 by decide), y1]
    · exact absurd rfl t0
  · refine ⟨_, tq_R.tstF hw hn r1, fun V c0 hs hl => ?_⟩
    rw [e0 V c0 hs]
    rcases r2 V _ hs with ⟨t0, -⟩ | ⟨t0, V2, t1, t2, t3⟩
    · exact absurd t0 (by simp)
    · have t1' : q_X8_readTest N Y rc V (z + 54) a (nI w) = some (nI 0, V2) := t1
      refine Or.inr ⟨t0, V2, ?_, t2, t3⟩
      rw [t1', pk_bd2E, if_pos rfl]
theorem pc_n2 (H : pk_cH N z u a h Y) (hL : L ≤ 700) (hQ : ∀ p, p ≤ L → pk_cR z a T L h 4 w 0 (fun V => q_X8_readTest N Y rc V (z + 54) a (nI w)) p) : ∀ d n p, p ≤ L → n + d = 6 → ∃ o, tq_R T L h 3 w p n [] o ∧ ∀ f V c0, d < f → pk_sC z a V T L p c0 → c0.length + n ≤ p → pk_gX z a T L V c0 (q_X8_readNot_2 N Y rc f V (z + 54) a (nI w) (nI n)) o := by
  have hM := H.2.1
  intro d
  induction d with
  | zero =>
    intro n p hp hn
    have e0 : ∀ f V, 0 < f → q_X8_readNot_2 N Y rc f V (z + 54) a (nI w) (nI n) = q_X8_readNot_33 N Y rc V (z + 54) a (nI w) (nI n) := by
      intro f V hf
      rw [show f = f - 1 + 1 by omega, q_X8_readNot_2, if_pos (show (6 : Int32) ≤ nI n from (show nI 6 ≤ nI n by rw [nI_leI (by omega) (by omega)]; omega))]
    by_cases hw : tq_w T L p = 34
    · refine ⟨_, tq_R.notF hw (by omega), fun f V c0 hf hs hl => ?_⟩
      have i1 : q_X9_isWord N Y V (z + 55) 9 = some (pk_B (tq_w T L p = 34)) := pc_word H hs.1 (g := 9) (by omega)
      have := pc_refX H hs (k := 2) (by omega)
      rw [e0 f V hf]
      unfold q_X8_readNot_33
      simp only [hM, pk_ckT, pk_bs, pk_letE, pk_bd2E, pk_bd3E, if_true, if_false, eq_self, not_true_eq_false, not_false_eq_true, true_and, and_true, Nat.not_lt_zero, Nat.zero_le, Nat.reduceEqDiff, Nat.reduceLT, Nat.reduceLeDiff, pk_ck, pk_lit, i1, pk_B0, hw]
      exact this
    · obtain ⟨o, r1, r2⟩ := pc_n33 (n := n) H hL hQ hp (by omega) hw
      refine ⟨o, r1, fun f V c0 hf hs hl => ?_⟩
      rw [e0 f V hf]
      exact r2 V c0 hs hl
  | succ d ih =>
    intro n p hp hn
    have e0 : ∀ f V c0, 0 < f → pk_sC z a V T L p c0 → q_X8_readNot_2 N Y rc f V (z + 54) a (nI w) (nI n) = if ¬ tq_w T L p = 34 then q_X8_readNot_33 N Y rc V (z + 54) a (nI w) (nI n) else (q_X9_step N Y V (z + 55)).bind fun V_26 => q_X8_readNot_2 N Y rc (f - 1) V_26 (z + 54) a (nI w) (nI (n + 1)) := by
      intro f V c0 hf hs
      have i1 : q_X9_isWord N Y V (z + 55) 9 = some (pk_B (tq_w T L p = 34)) := pc_word H hs.1 (g := 9) (by omega)
      obtain ⟨f', rfl⟩ : ∃ f', f = f' + 1 := ⟨f - 1, by omega⟩
      rw [q_X8_readNot_2, if_neg (show ¬ (6 : Int32) ≤ nI n from (show ¬ nI 6 ≤ nI n by rw [nI_leI (by omega) (by omega)]; omega))]
      simp (disch := omega) only [hM, pk_ckT, pk_bs, pk_letE, pk_bd2E, pk_bd3E, if_true, if_false, eq_self, not_true_eq_false, not_false_eq_true, true_and, and_true, Nat.not_lt_zero, Nat.zero_le, Nat.reduceEqDiff, Nat.reduceLT, Nat.reduceLeDiff, pk_ck, pk_lit, i1, pk_B0, nI_add, Nat.add_sub_cancel]
    by_cases hw : tq_w T L p = 34
    · have e1 := tq_e_gt (T := T) hL hp (by rw [tq_w_k (by omega)]; omega)
      have e2 := tq_e_le (T := T) hL hp
      obtain ⟨o, r1, r2⟩ := ih (n + 1) (tq_e T L p) e2 (by omega)
      refine ⟨o, tq_R.not hw (by omega) r1, fun f V c0 hf hs hl => ?_⟩
      obtain ⟨V1, g1, g2, g3⟩ := pc_goes (N := N) H.1 H.2.1 hs.1
      have hs1 := hs.fN (V' := V1) g2.fN H.ha.1 g3 (by omega)
      rw [e0 f V c0 (by omega) hs, if_neg (fun g => g hw), g1, pk_bs]
      rcases r2 (f - 1) V1 c0 (by omega) hs1 (by omega) with ⟨y1, V4, y2, y3, y4⟩ | ⟨y1, V4, y2, y3, y4⟩
      · exact Or.inl ⟨y1, V4, y2, (g2.fN.fX H.ha.1).tr y3, y4⟩
      · exact Or.inr ⟨y1, V4, y2, (g2.fN.fX H.ha.1).tr y3, y4⟩
    · obtain ⟨o, r1, r2⟩ := pc_n33 (n := n) H hL hQ hp (by omega) hw
      refine ⟨o, r1, fun f V c0 hf hs hl => ?_⟩
      rw [e0 f V c0 (by omega) hs, if_pos hw]
      exact r2 V c0 hs hl
theorem pc_rNot (H : pk_cH N z u a h Y) (hL : L ≤ 700) (hQ : ∀ p, p ≤ L → pk_cR z a T L h 4 w 0 (fun V => q_X8_readTest N Y rc V (z + 54) a (nI w)) p) (hp : p ≤ L) : pk_cR z a T L h 3 w 0 (fun V => q_X8_readNot N Y rc V (z + 54) a (nI w)) p := by
  have hN := H.1
  obtain ⟨o, r1, r2⟩ := pc_n2 H hL hQ 6 0 p hp rfl
  exact ⟨o, r1, fun V c0 hs => r2 N V c0 (by omega) hs hs.2.2⟩
theorem pc_rAnd (H : pk_cH N z u a h Y) (hL : L ≤ 700) (hQ : ∀ p, p ≤ L → pk_cR z a T L h 3 w 0 (fun V => q_X8_readNot N Y rc V (z + 54) a (nI w)) p) (hp : p ≤ L) : pk_cR z a T L h 22 w 0 (fun V => q_X8_readAnd N Y rc V (z + 54) a (nI w)) p := by
  have hM := H.2.1
  obtain ⟨s1, s2, s3⟩ := H.sh
  refine pc_level (l := 2) H hL (Or.inr (Or.inl rfl)) (fun V => q_X8_readNot N Y rc V (z + 54) a (nI w)) hQ (fun f V i => q_X8_readAnd_13 N Y rc f V (z + 54) a (nI w) i) ?_ ?_ hp _ ?_
  · intro f V i p hp hi ho
    have o6 : (if tq_w T L p = 32 then 2 else 0) = 0 := ho
    have n1 : ¬ tq_w T L p = 32 := fun g => by rw [if_pos g] at o6; omega
    have i1 : q_X9_isWord N Y V (z + 55) 18 = some (pk_B (tq_w T L p = 32)) := pc_word H hp (g := 18) (by omega)
    show q_X8_readAnd_13 N Y rc (f + 1) V (z + 54) a (nI w) (nI i) = _
    rw [q_X8_readAnd_13]
    simp (disch := omega) only [hM, pk_ckT, pk_bs, pk_letE, pk_bd2E, pk_bd3E, if_true, if_false, eq_self, not_true_eq_false, not_false_eq_true, true_and, and_true, Nat.not_lt_zero, Nat.zero_le, Nat.reduceEqDiff, Nat.reduceLT, Nat.reduceLeDiff, pk_ck, pk_lit, i1, pk_B0, n1, ite_self]
  · intro f V i p hp hi ho
    have i1 : q_X9_isWord N Y V (z + 55) 18 = some (pk_B (tq_w T L p = 32)) := pc_word H hp (g := 18) (by omega)
    have oe : tq_o T L 2 p = if tq_w T L p = 32 then 2 else 0 := rfl
    have n1 : tq_w T L p = 32 := by
      by_cases g : tq_w T L p = 32
      · exact g
      · rw [oe, if_neg g] at ho; exact absurd rfl ho
    show q_X8_readAnd_13 N Y rc (f + 1) V (z + 54) a (nI w) (nI i) = _
    rw [q_X8_readAnd_13, if_neg (show ¬ (700 : Int32) ≤ nI i from (show ¬ nI 700 ≤ nI i by rw [nI_leI (by omega) (by omega)]; omega)), oe, if_pos n1]
    simp (disch := omega) only [hM, s1, pk_ckT, pk_bs, pk_letE, pk_bd2E, pk_bd3E, if_true, if_false, eq_self, not_true_eq_false, not_false_eq_true, true_and, and_true, Nat.not_lt_zero, Nat.zero_le, Nat.reduceEqDiff, Nat.reduceLT, Nat.reduceLeDiff, pk_ck, pk_lit, i1, pk_B0, n1, nI_add]
  · intro V
    show q_X8_readAnd N Y rc V (z + 54) a (nI w) = _
    unfold q_X8_readAnd
    
    simp only [hM, pk_ckT, pk_bs, pk_letE, pk_bd2E, pk_bd3E, if_true, if_false, eq_self, not_true_eq_false, not_false_eq_true, true_and, and_true, Nat.not_lt_zero, Nat.zero_le, Nat.reduceEqDiff, Nat.reduceLT, Nat.reduceLeDiff, pk_ck, pk_lit]
theorem pc_rOr (H : pk_cH N z u a h Y) (hL : L ≤ 700) (hQ : ∀ p, p ≤ L → pk_cR z a T L h 22 w 0 (fun V => q_X8_readAnd N Y rc V (z + 54) a (nI w)) p) (hw : w < 6) (hp : p ≤ L) : pk_cR z a T L h 21 w 0 (fun V => q_X8_readExprF N Y rc V (z + 54) a (nI w)) p := by
  have hM := H.2.1
  obtain ⟨s1, s2, s3⟩ := H.sh
  refine pc_level (l := 1) H hL (Or.inl rfl) (fun V => q_X8_readAnd N Y rc V (z + 54) a (nI w)) hQ (fun f V i => q_X8_readExpr_36 N Y rc f V (z + 54) a (nI w) i) ?_ ?_ hp _ ?_
  · intro f V i p hp hi ho
    have o6 : (if tq_w T L p = 33 then 1 else 0) = 0 := ho
    have n1 : ¬ tq_w T L p = 33 := fun g => by rw [if_pos g] at o6; omega
    have i1 : q_X9_isWord N Y V (z + 55) 19 = some (pk_B (tq_w T L p = 33)) := pc_word H hp (g := 19) (by omega)
    show q_X8_readExpr_36 N Y rc (f + 1) V (z + 54) a (nI w) (nI i) = _
    rw [q_X8_readExpr_36]
    simp (disch := omega) only [hM, pk_ckT, pk_bs, pk_letE, pk_bd2E, pk_bd3E, if_true, if_false, eq_self, not_true_eq_false, not_false_eq_true, true_and, and_true, Nat.not_lt_zero, Nat.zero_le, Nat.reduceEqDiff, Nat.reduceLT, Nat.reduceLeDiff, pk_ck, pk_lit, i1, pk_B0, n1, ite_self]
  · intro f V i p hp hi ho
    have i1 : q_X9_isWord N Y V (z + 55) 19 = some (pk_B (tq_w T L p = 33)) := pc_word H hp (g := 19) (by omega)
    have oe : tq_o T L 1 p = if tq_w T L p = 33 then 1 else 0 := rfl
    have n1 : tq_w T L p = 33 := by
      by_cases g : tq_w T L p = 33
      · exact g
      · rw [oe, if_neg g] at ho; exact absurd rfl ho
    show q_X8_readExpr_36 N Y rc (f + 1) V (z + 54) a (nI w) (nI i) = _
    rw [q_X8_readExpr_36, if_neg (show ¬ (700 : Int32) ≤ nI i from (show ¬ nI 700 ≤ nI i by rw [nI_leI (by omega) (by omega)]; omega)), oe, if_pos n1]
    simp (disch := omega) only [hM, s1, pk_ckT, pk_bs, pk_letE, pk_bd2E, pk_bd3E, if_true, if_false, eq_self, not_true_eq_false, not_false_eq_true, true_and, and_true, Nat.not_lt_zero, Nat.zero_le, Nat.reduceEqDiff, Nat.reduceLT, Nat.reduceLeDiff, pk_ck, pk_lit, i1, pk_B0, n1, nI_add]
  · intro V
    show q_X8_readExprF N Y rc V (z + 54) a (nI w) = _
    unfold q_X8_readExprF
    rw [if_pos (show nI w < (6 : Int32) from (show nI w < nI 6 by rw [nI_ltI (by omega) (by omega)]; omega))]
    simp only [hM, pk_ckT, pk_bs, pk_letE, pk_bd2E, pk_bd3E, if_true, if_false, eq_self, not_true_eq_false, not_false_eq_true, true_and, and_true, Nat.not_lt_zero, Nat.zero_le, Nat.reduceEqDiff, Nat.reduceLT, Nat.reduceLeDiff, pk_ck, pk_lit]
/-- a whole rule -/
theorem pc_rExpr (H : pk_cH N z u a h Y) (hL : L ≤ 700) : ∀ d w n, w + d = 6 → d < n → ∀ p, p ≤ L → pk_cR z a T L h 1 w 0 (fun V => q_X8_readExprR N Y n V (z + 54) a (nI w)) p := by
  have hM := H.2.1
  intro d
  induction d with
  | zero =>
    intro w n hw hn p hp
    have kb := tq_k_b (T := T) (L := L) (p := p)
    refine ⟨_, tq_R.deep (by omega), fun V c0 hs => ?_⟩
    have i1 := pc_isSign (N := N) (c := 40) hM hs.1 (by omega)
    have e4 := hs.1.2.1.2.2.2
    have e1 : q_X8_mayBeginExpr N Y V (z + 54) = some (pk_B (tq_k T L p = 2 ∨ tq_k T L p = 1 ∨ tq_sn T L p 40)) := by
      unfold q_X8_mayBeginExpr
      simp (disch := omega) only [hM, pk_ckT, pk_bs, pk_letE, pk_bd2E, pk_bd3E, if_true, if_false, eq_self, not_true_eq_false, not_false_eq_true, true_and, and_true, Nat.not_lt_zero, Nat.zero_le, Nat.reduceEqDiff, Nat.reduceLT, Nat.reduceLeDiff, pk_ck, pk_lit, i1, e4, nI_eq, pk_B0]
      by_cases q1 : tq_k T L p = 2
      · rw [if_pos q1, pk_Bt (Or.inl q1)]
      rw [if_neg q1]
      by_cases q2 : tq_k T L p = 1
      · rw [if_pos q2, pk_Bt (Or.inr (Or.inl q2))]
      rw [if_neg q2]
      by_cases q3 : tq_sn T L p 40
      · rw [if_neg (fun g => g q3), pk_Bt (Or.inr (Or.inr q3))]
      · rw [if_pos q3, pk_Bf (by rintro (g | g | g); exact q1 g; exact q2 g; exact q3 g)]
    show pk_gX z a T L V c0 (q_X8_readExprR N Y n V (z + 54) a (nI w)) _
    rw [show n = n - 1 + 1 by omega, q_X8_readExprR]
    unfold q_X8_readExprF
    rw [if_neg (show ¬ nI w < (6 : Int32) from (show ¬ nI w < nI 6 by rw [nI_ltI (by omega) (by omega)]; omega))]
    simp only [hM, pk_ckT, pk_bs, pk_letE, pk_bd2E, pk_bd3E, if_true, if_false, eq_self, not_true_eq_false, not_false_eq_true, true_and, and_true, Nat.not_lt_zero, Nat.zero_le, Nat.reduceEqDiff, Nat.reduceLT, Nat.reduceLeDiff, pk_ck, pk_lit, e1, pk_B0, q_X8_readExpr_19]
    by_cases q : tq_k T L p = 2 ∨ tq_k T L p = 1 ∨ tq_sn T L p 40
    · rw [if_neg (fun g => g q), if_pos q]
      exact pc_refX H hs (by omega)
    · rw [if_pos q, if_neg q]
      exact pc_refX H hs (by omega)
  | succ d ih =>
    intro w n hw hn p hp
    have h7 := fun p hp => pc_rPart (p := p) (w := w) (rc := q_X8_readExprR N Y (n - 1)) H hL (ih (w + 1) (n - 1) (by omega) (by omega)) (by omega) hp
    have h6 := fun p hp => pc_rProd (p := p) H hL h7 hp
    have h5 := fun p hp => pc_rSum (p := p) H hL h6 hp
    have h4 := fun p hp => pc_rTest (p := p) H hL h5 hp
    have h3 := fun p hp => pc_rNot (p := p) H hL h4 hp
    have h2 := fun p hp => pc_rAnd (p := p) H hL h3 hp
    obtain ⟨o, r1, r2⟩ := pc_rOr (p := p) H hL h2 (by omega) hp
    refine ⟨o, tq_R.expr (by omega) r1, fun V c0 hs => ?_⟩
    have := r2 V c0 hs
    show pk_gX z a T L V c0 (q_X8_readExprR N Y n V (z + 54) a (nI w)) o
    rw [show n = n - 1 + 1 by omega, q_X8_readExprR]
    exact this
end
