/-! holds, glue -/
section
variable {N z t u s tl r a b c d k n j h m l p q0 md wa s' i : Nat} {Y Y' : bk_Lay} {V V' V2 W : bk_Val} {x y x1 x2 x3 x4 x5 : Int32} {w1 w2 : Int64} {D : Nat → Nat → Nat} {P : Nat → List Nat} {T T' w : Nat → Nat} {st st' g : pk_St} {hs hs' : List pk_St} {img img' : Option (pk_St × List pk_St)} {pl : Option (Nat → Nat)} {fp r0 r1 : Int32} {A B : pk_A}
def sp_ap (D : Nat → Nat → Nat) (a b : Nat) : Nat := min (if a < b then b - a else a - b) (D 0 0 - (if a < b then b - a else a - b))
theorem sp_ap_lt (ha : a < D 0 0) (hb : b < D 0 0) : sp_ap D a b < D 0 0 := by
  unfold sp_ap
  split <;> omega
theorem pc_apart (hS : pk_Sd Y t) (hT : pk_CT V t D P) (hB : pk_DB D P) (hi : i < D 2 0) (hh : h < D 2 0) : q_X5_inchesApart N Y V t (nI i) (nI h) = some (nI (sp_ap D (D 3 i) (D 3 h))) := by
  have b0 := hB.1
  have b1 : D 2 0 ≤ 6 := hB.2.2.2.2.2.2.2.2.2.1
  have b2 := hB.2.2.2.2.2.2.2.2.2.2.1
  have g1 := (hT.2.2.2.1 i hi).1
  have g2 := (hT.2.2.2.1 h hh).1
  have d1 := (b2 i hi).1
  have d2 := (b2 h hh).1
  have e1 := pc_roundS (N := N) (a := D 3 i) (b := D 3 h) hS hT hB (by omega) d2
  have e2 : (D 3 i + D 0 0 - D 3 h) % D 0 0 = if D 3 i < D 3 h then D 0 0 - (D 3 h - D 3 i) else D 3 i - D 3 h := by
    split
    · rw [Nat.mod_eq_of_lt (by omega)]; omega
    · rw [show D 3 i + D 0 0 - D 3 h = D 3 i - D 3 h + D 0 0 by omega, Nat.add_mod_right, Nat.mod_eq_of_lt (by omega)]
  have e3 : (D 3 i + D 0 0 - D 3 h) % D 0 0 < D 0 0 := Nat.mod_lt _ (by omega)
  unfold q_X5_inchesApart
  simp (disch := omega) only [hS, pk_ckT, pk_bs, pk_letE, pk_bd2E, pk_bd3E, if_true, if_false, eq_self, not_true_eq_false, not_false_eq_true, true_and, and_true, Nat.not_lt_zero, Nat.zero_le, Nat.reduceEqDiff, Nat.reduceLT, Nat.reduceLeDiff, pk_ck, nI_clamp, pk_inE, g1, g2, e1, pc_inches hS hT, pk_sub, pc_min]
  congr 2
  rw [e2]
  unfold sp_ap
  split <;> omega
theorem pr_apart (hS : pk_Rf Y r) (h1 : bk_rI V r 1 = nI (D 0 0)) (hd : D 0 0 ≤ 84) (ha : a < D 0 0) (hb : b < D 0 0) : q_X12_apart N Y V r (nI a) (nI b) = some (nI (sp_ap D a b)) := by
  unfold q_X12_apart sp_ap
  simp (disch := omega) only [nI_leI, q_X12_apart_14, hS, h1, pk_ckT, pk_bs, pk_letE, pk_bd2E, pk_bd3E, if_true, if_false, eq_self, not_true_eq_false, not_false_eq_true, true_and, and_true, Nat.not_lt_zero, Nat.zero_le, Nat.reduceEqDiff, Nat.reduceLT, Nat.reduceLeDiff, pk_ck]
  by_cases c : a < b
  · rw [if_neg (by omega), if_pos c, pk_sub (show a ≤ b by omega), pk_sub (show b - a ≤ D 0 0 by omega)]
    simp (disch := omega) only [nI_leI]
    split
    · rw [Nat.min_eq_right (by omega)]
    · rw [Nat.min_eq_left (by omega)]
  · rw [if_pos (by omega), if_neg c, pk_sub (show b ≤ a by omega), pk_sub (show a - b ≤ D 0 0 by omega)]
    simp (disch := omega) only [nI_leI]
    split
    · rw [Nat.min_eq_right (by omega)]
    · rw [Nat.min_eq_left (by omega)]
def sp_nf (D : Nat → Nat → Nat) (h : Nat) : Nat → Bool := fun k => decide (k ≠ h ∧ sp_ap D (D 3 k) (D 3 h) ≤ 2)
def sp_near (D : Nat → Nat → Nat) (h : Nat) : Nat := sp_cnt (sp_nf D h) 0 (D 2 0)
theorem pc_near (hN : 1000 ≤ N) (hS : pk_Sd Y t) (hT : pk_CT V t D P) (hB : pk_DB D P) (hh : h < D 2 0) : q_X5_holesNear N Y V t (nI h) = some (nI (sp_near D h)) := by
  have b0 := hB.1
  have b1 : D 2 0 ≤ 6 := hB.2.2.2.2.2.2.2.2.2.1
  have b2 := hB.2.2.2.2.2.2.2.2.2.2.1
  have L := loop_i (σ := Unit) (fun n i _ => q_X5_holesNear_4 N Y n V t (nI h) (nI (sp_cnt (sp_nf D h) 0 i)) (nI i) = some (nI (sp_near D h))) (fun _ _ => True) (D 2 0) ?_ ?_ N 0 () (by omega) (by omega) trivial
  · exact L
  · intro n _ _
    simp (disch := omega) only [q_X5_holesNear_4, hS, hT.2.2.1, pk_ckT, pk_bs, pk_letE, pk_bd2E, pk_bd3E, if_true, if_false, eq_self, not_true_eq_false, not_false_eq_true, true_and, and_true, Nat.not_lt_zero, Nat.zero_le, Nat.reduceEqDiff, Nat.reduceLT, Nat.reduceLeDiff, pk_ck, pk_lit, nI_add, pk_mul, nI_clamp, nI_leI, nI_ltI, nI_eq, pk_div, pk_remE, pk_inE, pk_sub, Nat.le_refl]
    rfl
  · intro n i _ hi _ ih
    have ih2 := ih () trivial
    have hl := sp_ap_lt (D := D) (a := D 3 i) (b := D 3 h) (b2 i hi).1 (b2 h hh).1
    rw [sp_cnt_end, Nat.zero_add] at ih2
    rw [q_X5_holesNear_4, pc_apart hS hT hB hi hh]
    simp (disch := omega) only [hS, hT.2.2.1, pk_ckT, pk_bs, pk_letE, pk_bd2E, pk_bd3E, if_true, if_false, eq_self, not_true_eq_false, not_false_eq_true, true_and, and_true, Nat.not_lt_zero, Nat.zero_le, Nat.reduceEqDiff, Nat.reduceLT, Nat.reduceLeDiff, pk_ck, pk_lit, nI_add, pk_mul, nI_clamp, nI_leI, nI_ltI, nI_eq, pk_div, pk_remE, pk_inE, pk_sub, q_X5_holesNear_33]
    rw [if_neg (by omega)]
    by_cases c1 : i = h
    · rw [if_neg (show ¬ sp_nf D h i = true from fun q => (of_decide_eq_true q).1 c1)] at ih2
      rw [if_pos c1]; exact ih2
    · rw [if_neg c1]
      by_cases c2 : 2 < sp_ap D (D 3 i) (D 3 h)
      · rw [if_neg (show ¬ sp_nf D h i = true from fun q => by have := (of_decide_eq_true q).2; omega)] at ih2
        rw [if_pos c2]; exact ih2
      · rw [if_pos (show sp_nf D h i = true from decide_eq_true ⟨c1, by omega⟩)] at ih2
        rw [if_neg c2]; exact ih2
def sp_envH (D : Nat → Nat → Nat) (h m c d : Nat) : Nat → Int32 := fun j => if j = 0 then nI (D 5 h) else if j = 1 then nI (D 4 h) else if j = 2 then nI m else if j = 3 then nI c else if j = 4 then nI d else nI (sp_near D h)
def sp_hold (D : Nat → Nat → Nat) (P : Nat → List Nat) (h m c d : Nat) : Nat := if P 1 = [] then min (12 * m) 100 else sp_cl (sp_ev (sp_envH D h m c d) (P 1) (fun _ => 0) 0) 100
theorem sp_hold_le : sp_hold D P h m c d ≤ 100 := by
  unfold sp_hold
  split
  · omega
  · exact sp_cl_le
theorem pc_holdsBy (hN : 1000 ≤ N) (hS : pk_Sd Y t) (hT : pk_CT V t D P) (hB : pk_DB D P) (hh : h < D 2 0) (hm : m ≤ 60) : ∃ V2, q_X5_holdsBy N Y V t (nI h) (nI m) (nI c) (nI d) = some (nI (sp_hold D P h m c d), V2) ∧ pk_fr t V V2 := by
  have hT0 := hT
  have hB0 := hB
  obtain ⟨c1, c2, c3, c4, c5, c6, c7, c8, c9, c10⟩ := hT
  obtain ⟨-, -, -, -, -, -, -, -, -, b1, b2, -, -, -, -, b3⟩ := hB
  obtain ⟨g1, g2, g3, g4⟩ := c4 h hh
  obtain ⟨k1, k2⟩ := b3 1 (by omega)
  have s18 : bk_sh Y (t + 18) = (1, 3) := by simp only [hS]
  unfold q_X5_holdsBy
  simp (disch := omega) only [hS, pk_ckT, pk_bs, pk_letE, pk_bd2E, pk_bd3E, if_true, if_false, eq_self, not_true_eq_false, not_false_eq_true, true_and, and_true, Nat.not_lt_zero, Nat.zero_le, Nat.reduceEqDiff, Nat.reduceLT, Nat.reduceLeDiff, pk_ck, pc_told s18 c10 k1, pk_lit, pk_B0, g1, g2, g3, pk_inE, nI_clamp, pk_rI_same, pk_rI_ne, pk_rI_wL, pk_rL_wI, pk_rL_same, pk_rL_ne]
  by_cases e : P 1 = []
  · rw [if_pos (fun q => q e)]
    refine ⟨V, ?_, pk_fr.rf⟩
    rw [pk_mul, pc_min (by omega) (by omega), pk_bs, sp_hold, if_pos e]
  · rw [if_neg (fun q => q e)]
    let V4 : bk_Val := bk_wI (bk_wI (bk_wI (bk_wI (bk_wI V (t + 21) 0 (nI (D 5 h))) (t + 21) 1 (nI (D 4 h))) (t + 21) 2 (nI m)) (t + 21) 3 (nI c)) (t + 21) 4 (nI d)
    have f0 : pk_fr t V V4 := pk_fr.rf.wI.wI.wI.wI.wI
    obtain ⟨V', hV'⟩ : ∃ V', V' = bk_wI V4 (t + 21) 5 (nI (sp_near D h)) := ⟨_, rfl⟩
    have f1 : pk_fr t V V' := by rw [hV']; exact f0.wI
    have e5 : q_X5_holesNear N Y V4 t (nI h) = some (nI (sp_near D h)) := pc_near hN hS (hT0.fr f0) hB0 hh
    have c10' : pk_CR V' (t + 18) (t + 18 + 1) (P 1) := c10.of (f1.2 _ (by omega) (by omega) (by omega)) (f1.2 _ (by omega) (by omega) (by omega))
    obtain ⟨V2, e1, e2⟩ := pc_value (N := N) (Y := Y) (V := V') (a := t + 18) (b := t + 21) (v := 6) (e := sp_envH D h m c d) (l := P 1) (by simp only [hS]) (by simp only [hS]) (by simp only [hS]) (by simp only [hS]) (by simp only [hS]) (by simp only [hS]) (by omega) c10' k1 (by omega) (fun j hj => by
      have : j = 0 ∨ j = 1 ∨ j = 2 ∨ j = 3 ∨ j = 4 ∨ j = 5 := by omega
      rw [hV']
      rcases this with rfl | rfl | rfl | rfl | rfl | rfl <;> simp only [V4, pk_rI_same, sp_envH, pk_ckT, pk_bs, pk_letE, pk_bd2E, pk_bd3E, if_true, if_false, eq_self, not_true_eq_false, not_false_eq_true, true_and, and_true, Nat.not_lt_zero, Nat.zero_le, Nat.reduceEqDiff, Nat.reduceLT, Nat.reduceLeDiff, pk_ck]) (P 1) 0 0 N (fun _ => 0) V' (by omega) (fun j _ => by rw [Nat.zero_add]) (k2 e) (by omega) (fun j hj => absurd hj (Nat.not_lt_zero _)) pk_but.rf (by omega)
    have e1 : q_X4_valueBy N Y V' (t + 18) (t + 21) = some (sp_ev (sp_envH D h m c d) (P 1) (fun _ => 0) 0, V2) := e1
    refine ⟨V2, ?_, f1.but (Or.inr e2)⟩
    show Option.bind (q_X5_holesNear N Y V4 t (nI h)) _ = _
    rw [e5, pk_bs, ← hV', e1, pk_bd2E, sp_hold, if_neg e]
    have := pc_cl (N := N) (Y := Y) (V := V2) (u := sp_ev (sp_envH D h m c d) (P 1) (fun _ => 0) 0) (a := 100) (by decide)
    generalize nI (sp_cl (sp_ev (sp_envH D h m c d) (P 1) (fun _ => 0) 0) 100) = u at *
    cases h1 : q_J9_min_7cf53 N Y V2 (sp_ev (sp_envH D h m c d) (P 1) (fun _ => 0) 0) (nI 100) with
    | none => rw [h1] at this; cases this
    | some u1 =>
      rw [h1, pk_bs] at this
      rw [pk_bs]
      have h3 : (q_J9_max_7cf53 N Y V2 (nI 0) u1).bind (fun r2 => some r2) = some u := this
      cases h2 : q_J9_max_7cf53 N Y V2 (nI 0) u1 with
      | none => rw [h2] at h3; cases h3
      | some u2 =>
        rw [h2, pk_bs] at h3
        rw [pk_bs, Option.some.inj h3]
theorem pr_holdsOf (hN : 1000 ≤ N) (hS : pk_Rf Y r) (hT : pk_RT V r D P) (hB : pk_DB D P) (hh : h < D 2 0) (hm : m ≤ 60) : ∃ V2, q_X12_holdsOf N Y V r (nI h) (nI m) (nI c) (nI d) = some (nI (sp_hold D P h m c d), V2) ∧ pk_frR r V V2 := by
  obtain ⟨c1, c2, c3, c4, c5, c6, c7⟩ := hT
  have hB' := hB
  obtain ⟨b0, -, -, -, -, -, -, -, -, b1, b2, -, -, -, -, b3⟩ := hB'
  obtain ⟨g1, g2, g3, g4⟩ := c3 h hh
  obtain ⟨k1, k2⟩ := b3 1 (by omega)
  rcases c7 with ⟨e, c7⟩ | ⟨e, i, hi, c7, c8⟩
  · refine ⟨V, ?_, pk_frR.rf⟩
    simp (disch := omega) only [q_X12_holdsOf, hS, pk_ckT, pk_bs, pk_letE, pk_bd2E, pk_bd3E, if_true, if_false, eq_self, not_true_eq_false, not_false_eq_true, true_and, and_true, Nat.not_lt_zero, Nat.zero_le, Nat.reduceEqDiff, Nat.reduceLT, Nat.reduceLeDiff, pk_ck, pk_lit, c7, pk_mul]
    rw [pr_kept (by decide), pk_bs, sp_hold, if_pos e]
    congr 3
    unfold sp_cl
    rw [if_neg (show ¬ nI (m * 12) < nI 0 from nI_pos (by omega)), nI_clamp (by omega), Nat.mul_comm]
  · have hne : ¬ bk_rI V r 13 = -nI 1 := by
      rw [c7]
      intro q
      have := pk_eqm1 (a := i) (by omega)
      rw [this] at q
      exact q
    have fin : ∃ V2, q_X12_holdsOf_24 N Y N V r (nI h) (nI m) (nI c) (nI d) (nI (sp_cnt (sp_nf D h) 0 0)) (nI 0) = some (nI (sp_hold D P h m c d), V2) ∧ pk_frR r V V2 := by
      refine loop_i (σ := Unit) (fun n i _ => ∃ V2, q_X12_holdsOf_24 N Y n V r (nI h) (nI m) (nI c) (nI d) (nI (sp_cnt (sp_nf D h) 0 i)) (nI i) = some (nI (sp_hold D P h m c d), V2) ∧ pk_frR r V V2) (fun _ _ => True) (D 2 0) ?_ ?_ N 0 () (by omega) (by omega) trivial
      · intro n _ _
        obtain ⟨V', hV'⟩ : ∃ V', V' = bk_wI (bk_wI (bk_wI (bk_wI (bk_wI (bk_wI V (r + 18) 0 (nI (D 5 h))) (r + 18) 1 (nI (D 4 h))) (r + 18) 5 (nI m)) (r + 18) 6 (nI c)) (r + 18) 7 (nI d)) (r + 18) 8 (nI (sp_near D h)) := ⟨_, rfl⟩
        have f1 : pk_frR r V V' := by
          rw [hV']
          exact pk_frR.rf.wI18.wI18.wI18.wI18.wI18.wI18
        have c8' : pk_RC V' (r + 5) 1 (P 1) i := c8.of (f1.1 _ (by omega) (by omega) (by omega) (by omega))
        have c7' : bk_rI V' r 13 = nI i := by
          rw [← c7]
          exact f1.2.1 13 (by decide) (by decide) (by decide) (by decide)
        obtain ⟨V2, e1, e2⟩ := pr_reck (N := N) (Y := Y) (V := V') (r := r) (v := 6) (w := 1) (e := sp_envH D h m c d) (by simp only [hS]) (by simp only [hS]) (by simp only [hS]) (by simp only [hS]) (by simp only [hS]) (by simp only [hS]) (by simp only [hS]) (by decide) (fun j hj => by
          have : j = 0 ∨ j = 1 ∨ j = 2 ∨ j = 3 ∨ j = 4 ∨ j = 5 := by omega
          rw [hV']
          rcases this with rfl | rfl | rfl | rfl | rfl | rfl <;> simp only [pk_rI_same, sp_envH, sp_vm, pk_ckT, pk_bs, pk_letE, pk_bd2E, pk_bd3E, if_true, if_false, eq_self, not_true_eq_false, not_false_eq_true, true_and, and_true, Nat.not_lt_zero, Nat.zero_le, Nat.reduceEqDiff, Nat.reduceLT, Nat.reduceLeDiff, pk_ck, Nat.reduceAdd]) (P 1) i 0 N (fun _ => 0) V' c8' (k2 e) (by omega) (fun j hj => absurd hj (Nat.not_lt_zero _)) pk_but.rf (by omega)
        have e1 : q_X12_reckons N Y V' r (nI i) = some (sp_ev (sp_envH D h m c d) (P 1) (fun _ => 0) 0, V2) := e1
        refine ⟨V2, ?_, f1.but e2⟩
        have hcn : sp_cnt (sp_nf D h) 0 (D 2 0) = sp_near D h := rfl
        rw [q_X12_holdsOf_24]
        simp (disch := omega) only [hS, c1, pk_ckT, pk_bs, pk_letE, pk_bd2E, pk_bd3E, if_true, if_false, eq_self, not_true_eq_false, not_false_eq_true, true_and, and_true, Nat.not_lt_zero, Nat.zero_le, Nat.reduceEqDiff, Nat.reduceLT, Nat.reduceLeDiff, pk_ck, pk_lit, nI_add, pk_mul, nI_clamp, nI_leI, nI_ltI, nI_eq, pk_div, pk_remE, pk_inE, pk_sub, Nat.le_refl, g1, g2, g3, pk_rI_same, pk_rI_ne, pk_rI_wL, pk_rL_wI, pk_rL_same, pk_rL_ne, hcn, ← hV', c7', e1]
        rw [sp_hold, if_neg e, pr_kept (by decide), pk_bs]
        rfl
      · intro n i _ hi _ ih
        have ih2 := ih () trivial
        have d1 := (b2 i hi).1
        have d2 := (b2 h hh).1
        have gi := (c3 i hi).1
        have hl := sp_ap_lt (D := D) (a := D 3 i) (b := D 3 h) d1 d2
        rw [sp_cnt_end, Nat.zero_add] at ih2
        rw [q_X12_holdsOf_24]
        simp (disch := omega) only [hS, c1, pk_ckT, pk_bs, pk_letE, pk_bd2E, pk_bd3E, if_true, if_false, eq_self, not_true_eq_false, not_false_eq_true, true_and, and_true, Nat.not_lt_zero, Nat.zero_le, Nat.reduceEqDiff, Nat.reduceLT, Nat.reduceLeDiff, pk_ck, pk_lit, nI_add, pk_mul, nI_clamp, nI_leI, nI_ltI, nI_eq, pk_div, pk_remE, pk_inE, pk_sub, gi, g1, pr_apart hS c1.1 b0.2 d1 d2, q_X12_holdsOf_70, q_X12_holdsOf_71]
        rw [if_neg (by omega)]
        by_cases e1 : i = h
        · rw [if_neg (show ¬ sp_nf D h i = true from fun q => (of_decide_eq_true q).1 e1)] at ih2
          rw [if_pos e1]; exact ih2
        · rw [if_neg e1]
          by_cases e2 : 2 < sp_ap D (D 3 i) (D 3 h)
          · rw [if_neg (show ¬ sp_nf D h i = true from fun q => by have := (of_decide_eq_true q).2; omega)] at ih2
            rw [if_pos e2]; exact ih2
          · rw [if_pos (show sp_nf D h i = true from decide_eq_true ⟨e1, by omega⟩)] at ih2
            rw [if_neg e2]; exact ih2
    simp only [q_X12_holdsOf, hS, pk_ckT, pk_bs, pk_letE, pk_bd2E, pk_bd3E, if_true, if_false, eq_self, not_true_eq_false, not_false_eq_true, true_and, and_true, Nat.not_lt_zero, Nat.zero_le, Nat.reduceEqDiff, Nat.reduceLT, Nat.reduceLeDiff, pk_ck, pk_lit]
    rw [if_neg hne]
    exact fin
def sp_glue (D : Nat → Nat → Nat) (P : Nat → List Nat) (h c d o : Nat) : Option Nat := sp_find (fun m => decide (o ≤ sp_hold D P h m c d)) 0 61
theorem pc_glueFor (hN : 1000 ≤ N) (hS : pk_Sd Y t) (hT : pk_CT V t D P) (hB : pk_DB D P) (hh : h < D 2 0) (ho : p ≤ 100) : ∃ V2, q_X5_glueFor N Y V t (nI h) (nI c) (nI d) (nI p) = some (pk_on (sp_glue D P h c d p), V2) ∧ pk_fr t V V2 := by
  refine loop_i (σ := bk_Val) (fun n i W => ∃ V2, q_X5_glueFor_3 N Y n W t (nI h) (nI c) (nI d) (nI p) (nI i) = some (pk_on (sp_find (fun m => decide (p ≤ sp_hold D P h m c d)) i (61 - i)), V2) ∧ pk_fr t V V2) (fun _ W => pk_fr t V W) 61 ?_ ?_ N 0 V (by omega) (by omega) pk_fr.rf
  · intro n W hW
    refine ⟨W, ?_, hW⟩
    simp (disch := omega) only [q_X5_glueFor_3, pk_ckT, pk_bs, pk_letE, pk_bd2E, pk_bd3E, if_true, if_false, eq_self, not_true_eq_false, not_false_eq_true, true_and, and_true, Nat.not_lt_zero, Nat.zero_le, Nat.reduceEqDiff, Nat.reduceLT, Nat.reduceLeDiff, pk_ck, pk_lit, nI_add, pk_mul, nI_clamp, nI_leI, nI_ltI, nI_eq, pk_div, pk_remE, pk_inE, pk_sub]
    rfl
  · intro n i W hi hW ih
    obtain ⟨V2, e1, e2⟩ := pc_holdsBy (N := N) (m := i) (c := c) (d := d) hN hS (hT.fr hW) hB hh (by omega)
    have hl := sp_hold_le (D := D) (P := P) (h := h) (m := i) (c := c) (d := d)
    rw [q_X5_glueFor_3, e1, show 61 - i = (61 - (i + 1)) + 1 by omega, sp_find]
    simp (disch := omega) only [hS, pk_ckT, pk_bs, pk_letE, pk_bd2E, pk_bd3E, if_true, if_false, eq_self, not_true_eq_false, not_false_eq_true, true_and, and_true, Nat.not_lt_zero, Nat.zero_le, Nat.reduceEqDiff, Nat.reduceLT, Nat.reduceLeDiff, pk_ck, pk_lit, nI_add, pk_mul, nI_clamp, nI_leI, nI_ltI, nI_eq, pk_div, pk_remE, pk_inE, pk_sub]
    rw [if_neg (by omega)]
    by_cases e : sp_hold D P h i c d < p
    · rw [if_pos e, if_neg (fun q => by have := of_decide_eq_true q; omega)]
      exact ih V2 (hW.tr e2)
    · rw [if_neg e, if_pos (decide_eq_true (by omega))]
      exact ⟨V2, rfl, hW.tr e2⟩
theorem pr_glueOf (hN : 1000 ≤ N) (hS : pk_Rf Y r) (hT : pk_RT V r D P) (hB : pk_DB D P) (hh : h < D 2 0) (ho : p ≤ 100) : ∃ V2, q_X12_glueOf N Y V r (nI h) (nI c) (nI d) (nI p) = some (pk_on (sp_glue D P h c d p), V2) ∧ pk_frR r V V2 := by
  refine loop_i (σ := bk_Val) (fun n i W => ∃ V2, q_X12_glueOf_3 N Y n W r (nI h) (nI c) (nI d) (nI p) (nI i) = some (pk_on (sp_find (fun m => decide (p ≤ sp_hold D P h m c d)) i (61 - i)), V2) ∧ pk_frR r V V2) (fun _ W => pk_frR r V W) 61 ?_ ?_ N 0 V (by omega) (by omega) pk_frR.rf
  · intro n W hW
    refine ⟨W, ?_, hW⟩
    simp (disch := omega) only [q_X12_glueOf_3, pk_ckT, pk_bs, pk_letE, pk_bd2E, pk_bd3E, if_true, if_false, eq_self, not_true_eq_false, not_false_eq_true, true_and, and_true, Nat.not_lt_zero, Nat.zero_le, Nat.reduceEqDiff, Nat.reduceLT, Nat.reduceLeDiff, pk_ck, pk_lit, nI_add, pk_mul, nI_clamp, nI_leI, nI_ltI, nI_eq, pk_div, pk_remE, pk_inE, pk_sub]
    rfl
  · intro n i W hi hW ih
    obtain ⟨V2, e1, e2⟩ := pr_holdsOf (N := N) (m := i) (c := c) (d := d) hN hS (hT.fr hW) hB hh (by omega)
    have hl := sp_hold_le (D := D) (P := P) (h := h) (m := i) (c := c) (d := d)
    rw [q_X12_glueOf_3, e1, show 61 - i = (61 - (i + 1)) + 1 by omega, sp_find]
    simp (disch := omega) only [hS, pk_ckT, pk_bs, pk_letE, pk_bd2E, pk_bd3E, if_true, if_false, eq_self, not_true_eq_false, not_false_eq_true, true_and, and_true, Nat.not_lt_zero, Nat.zero_le, Nat.reduceEqDiff, Nat.reduceLT, Nat.reduceLeDiff, pk_ck, pk_lit, nI_add, pk_mul, nI_clamp, nI_leI, nI_ltI, nI_eq, pk_div, pk_remE, pk_inE, pk_sub]
    rw [if_neg (by omega)]
    by_cases e : sp_hold D P h i c d < p
    · rw [if_pos e, if_neg (fun q => by have := of_decide_eq_true q; omega)]
      exact ih V2 (hW.tr e2)
    · rw [if_neg e, if_pos (decide_eq_true (by omega))]
      exact ⟨V2, rfl, hW.tr e2⟩
end
