/-! what a seed finds -/
def sp_hit (D : Nat → Nat → Nat) (S i h : Nat) : Bool := decide (sp_bit S h ∧ sp_look D (D 3 h) i)
def sp_fd (q : Nat → Bool) (m : Nat) (e : Int32) : Nat → Int32 × Option Nat
  | 0 => (e, none)
  | n + 1 => if q n then (sp_gr (sp_fd q m e n).1, if (sp_fd q m e n).2 = none then (if m ≤ sp_dr (sp_gr (sp_fd q m e n).1) then some n else none) else (sp_fd q m e n).2) else sp_fd q m e n
def sp_fin (F : Nat → Int32 → Int32 × Option Nat) : Nat → Nat → Int32 → Option (Nat × Nat)
  | 0, _, _ => none
  | n + 1, k, e => match (F k e).2 with
    | some h => some (k, h)
    | none => sp_fin F n (k + 1) (F k e).1
def sp_fI (o : Option (Nat × Nat)) : Int32 := match o with
  | none => -nI 1
  | some g => nI ((g.1 + 1) * 6 + g.2)
def sp_pI (o : Option (Nat × Nat)) (c : Nat) : Int32 := match o with
  | none => -nI 1
  | some g => if c = 0 then nI (g.1 + 1) else nI g.2
def sp_FF (D : Nat → Nat → Nat) (S : Nat) (In : Nat → Nat) (k : Nat) (e : Int32) : Int32 × Option Nat := sp_fd (sp_hit D S (In k)) (D 0 2) e (D 2 0)
section
variable {N z t u s tl r a b c d k n j h m l p q q0 md wa s' i f e gg v S : Nat} {Y Y' : bk_Lay} {V V' V2 W : bk_Val} {x y x1 x2 x3 x4 x5 ee : Int32} {w1 w2 : Int64} {D : Nat → Nat → Nat} {P : Nat → List Nat} {T T' w R G In : Nat → Nat} {st st' g : pk_St} {hs hs' : List pk_St} {img img' : Option (pk_St × List pk_St)} {pl pl' : Option (Nat → Nat)} {fp r0 r1 : Int32} {A B : pk_A}
theorem sp_fd_keep {q : Nat → Bool} (h1 : (sp_fd q m ee n).2 = some h) : ∀ i, (sp_fd q m ee (n + i)).2 = some h
  | 0 => h1
  | i + 1 => by
    have ih := sp_fd_keep h1 i
    show (if q (n + i) then (sp_gr (sp_fd q m ee (n + i)).1, if (sp_fd q m ee (n + i)).2 = none then (if m ≤ sp_dr (sp_gr (sp_fd q m ee (n + i)).1) then some (n + i) else none) else (sp_fd q m ee (n + i)).2) else sp_fd q m ee (n + i)).2 = some h
    by_cases c : q (n + i) = true
    · rw [if_pos c]
      show (if (sp_fd q m ee (n + i)).2 = none then _ else (sp_fd q m ee (n + i)).2) = _
      rw [ih, if_neg (by intro q; cases q)]
    · rw [if_neg c]
      exact ih
theorem sp_fd_lt {q : Nat → Bool} : ∀ n, (sp_fd q m ee n).2 = some h → h < n
  | 0, h1 => by cases h1
  | n + 1, h1 => by
    by_cases c : q n = true
    · have e1 : (sp_fd q m ee (n + 1)).2 = if (sp_fd q m ee n).2 = none then (if m ≤ sp_dr (sp_gr (sp_fd q m ee n).1) then some n else none) else (sp_fd q m ee n).2 := by
        show (if q n then _ else sp_fd q m ee n).2 = _
        rw [if_pos c]
      rw [e1] at h1
      by_cases c2 : (sp_fd q m ee n).2 = none
      · rw [if_pos c2] at h1
        by_cases c3 : m ≤ sp_dr (sp_gr (sp_fd q m ee n).1)
        · rw [if_pos c3] at h1
          cases h1
          omega
        · rw [if_neg c3] at h1
          cases h1
      · rw [if_neg c2] at h1
        have := sp_fd_lt n h1
        omega
    · have e1 : sp_fd q m ee (n + 1) = sp_fd q m ee n := if_neg c
      rw [e1] at h1
      have := sp_fd_lt n h1
      omega
theorem sp_fd_no {q : Nat → Bool} (hq : ∀ i, i < n → q i = false) : ∀ i, i ≤ n → sp_fd q m ee i = (ee, none)
  | 0, _ => rfl
  | i + 1, hi => by
    have e1 : sp_fd q m ee (i + 1) = sp_fd q m ee i := if_neg (by rw [hq i (by omega)]; decide)
    rw [e1]
    exact sp_fd_no hq i (by omega)
theorem sp_fin_no {F : Nat → Int32 → Int32 × Option Nat} (hF : ∀ k e, (F k e).2 = none) : ∀ n k e, sp_fin F n k e = none
  | 0, _, _ => rfl
  | n + 1, k, e => by
    unfold sp_fin
    rw [hF k e]
    exact sp_fin_no hF n _ _
theorem sp_fin_lt {F : Nat → Int32 → Int32 × Option Nat} (hF : ∀ k e h, (F k e).2 = some h → h < m) : ∀ n k e g, sp_fin F n k e = some g → g.1 < k + n ∧ g.2 < m
  | 0, _, _, _, h => by cases h
  | n + 1, k, e, g, h => by
    unfold sp_fin at h
    rcases hc : (F k e).2 with _ | h'
    · rw [hc] at h
      have := sp_fin_lt hF n _ _ _ h
      omega
    · rw [hc] at h
      have e1 : (k, h') = g := Option.some.inj h
      rw [← e1]
      exact ⟨by show k < _; omega, hF k e h' hc⟩
theorem sp_FF_lt (k : Nat) (e : Int32) (h : Nat) (h1 : (sp_FF D S In k e).2 = some h) : h < D 2 0 := sp_fd_lt _ h1
theorem sp_FF_0 (k : Nat) (e : Int32) : (sp_FF D 0 In k e).2 = none := by
  unfold sp_FF
  rw [sp_fd_no (n := D 2 0) (fun i _ => by
    unfold sp_hit
    refine decide_eq_false (fun q => ?_)
    have := q.1
    unfold sp_bit at this
    rw [Nat.zero_div] at this
    omega) _ (Nat.le_refl _)]
theorem sp_fd_s1 {q : Nat → Bool} (c : q n = true) (h0 : (sp_fd q m ee n).2 = none) (hd : m ≤ sp_dr (sp_gr (sp_fd q m ee n).1)) : sp_fd q m ee (n + 1) = (sp_gr (sp_fd q m ee n).1, some n) := by
  show (if q n then _ else _) = _
  rw [if_pos c, if_pos h0, if_pos hd]
theorem sp_fd_s2 {q : Nat → Bool} (c : q n = true) (h0 : (sp_fd q m ee n).2 = none) (hd : ¬ m ≤ sp_dr (sp_gr (sp_fd q m ee n).1)) : sp_fd q m ee (n + 1) = (sp_gr (sp_fd q m ee n).1, none) := by
  show (if q n then _ else _) = _
  rw [if_pos c, if_pos h0, if_neg hd]
theorem sp_fd_s3 {q : Nat → Bool} (c : ¬ q n = true) : sp_fd q m ee (n + 1) = sp_fd q m ee n := if_neg c
theorem sp_fd_s4 {q : Nat → Bool} (c : q n = true) (h0 : (sp_fd q m ee n).2 = some h) : sp_fd q m ee (n + 1) = (sp_gr (sp_fd q m ee n).1, some h) := by
  show (if q n then _ else _) = _
  rw [if_pos c, h0, if_neg (by intro q; cases q)]
/-! the class -/
theorem pc_looks (hS : pk_Sd Y t) (hT : pk_CT V t D P) (hB : pk_DB D P) (hi : i < D 0 0) (hj : j < D 0 0) : q_X5_looksAt N Y V t (nI i) (nI j) = some (pk_B (sp_look D j i)) := by
  have b0 := hB.1
  have b1 := hB.2.1
  have hm : (j + D 0 0 - i) % D 0 0 < D 0 0 := Nat.mod_lt _ (by omega)
  unfold q_X5_looksAt
  rw [pk_ck hS.1, pc_roundS hS hT hB (by omega) hi, pk_bs, pc_hand hS hT, pk_bs]
  by_cases c : D 0 1 ≤ (j + D 0 0 - i) % D 0 0
  · rw [if_pos (nI_le c (by omega)), pk_Bf (by show ¬ (j + D 0 0 - i) % D 0 0 < D 0 1; omega)]
    rfl
  · rw [if_neg (by rw [nI_leI (by omega) (by omega)]; exact c), pk_Bt (by show (j + D 0 0 - i) % D 0 0 < D 0 1; omega)]
    rfl
theorem pc_fb59 {K : bk_Lay → bk_Val → Nat → Int32 → Int32 → Int32 → Int32 → Option (Int32 × bk_Lay × bk_Val)} (hN : 1000 ≤ N) (hM : pk_Mn Y z) (hz : bk_rR Y z 5 = some t) (hS : pk_Sd Y t) (hT : pk_CT V t D P) (hB : pk_DB D P) (hs : S < 64) (hi : i < D 0 0) : q_X11_findBy_54 N K Y V z (nI S) x3 ee (nI k) (nI i) = match (sp_fd (sp_hit D S i) (D 0 2) ee (D 2 0)).2 with
    | none => K Y V z (nI S) x3 (sp_fd (sp_hit D S i) (D 0 2) ee (D 2 0)).1 (nI (k + 1))
    | some h => some (nI ((k + 1) * 6 + h), Y, V) := by
  have b0 := hB.1
  have b2 := hB.2.2.1
  have b6 : D 2 0 ≤ 6 := hB.2.2.2.2.2.2.2.2.2.1
  unfold q_X11_findBy_54
  refine loop_i (σ := Unit) (fun fu j _ => q_X11_findBy_59 N K fu Y V z (nI S) x3 (sp_fd (sp_hit D S i) (D 0 2) ee j).1 (nI k) (nI i) (nI j) = match (sp_fd (sp_hit D S i) (D 0 2) ee (D 2 0)).2 with
    | none => K Y V z (nI S) x3 (sp_fd (sp_hit D S i) (D 0 2) ee (D 2 0)).1 (nI (k + 1))
    | some h => some (nI ((k + 1) * 6 + h), Y, V)) (fun j _ => (sp_fd (sp_hit D S i) (D 0 2) ee j).2 = none) (D 2 0) ?_ ?_ N 0 () (by omega) (by omega) rfl
  · intro fu _ h0
    rw [h0, q_X11_findBy_59]
    simp (disch := omega) only [hM, hz, hS, hT.2.2.1, pk_ckT, pk_bs, pk_letE, pk_bd2E, pk_bd3E, if_true, if_false, eq_self, not_true_eq_false, not_false_eq_true, true_and, and_true, Nat.not_lt_zero, Nat.zero_le, Nat.reduceEqDiff, Nat.reduceLT, Nat.reduceLeDiff, pk_ck, pk_lit, nI_add, pk_mul, nI_clamp, nI_leI, nI_ltI, nI_eq, pk_div, pk_remE, pk_inE, pk_sub, Nat.le_refl]
  · intro fu j _ hj h0 ih
    have hr := (hT.2.2.2.1 j hj).1
    have hij := (hB.2.2.2.2.2.2.2.2.2.2.1 j hj).1
    have hbit := pk_bitE (s := S) (h := j) (by omega) (by omega)
    have hlk := pc_looks (N := N) (V := V) hS hT hB hi hij
    have hdr := sp_dr_lt (x := sp_gr (sp_fd (sp_hit D S i) (D 0 2) ee j).1)
    have eg : q_X11_grownSeed N Y V (sp_fd (sp_hit D S i) (D 0 2) ee j).1 = some (sp_gr (sp_fd (sp_hit D S i) (D 0 2) ee j).1) := rfl
    rw [q_X11_findBy_59]
    simp (disch := omega) only [hM, hz, hS, hT.2.2.1, pk_ckT, pk_bs, pk_letE, pk_bd2E, pk_bd3E, if_true, if_false, eq_self, not_true_eq_false, not_false_eq_true, true_and, and_true, Nat.not_lt_zero, Nat.zero_le, Nat.reduceEqDiff, Nat.reduceLT, Nat.reduceLeDiff, pk_ck, pk_lit, nI_leI, hbit, nI_clamp, pk_inE, hr, hlk, pk_B0]
    rw [if_neg (by omega)]
    by_cases c : sp_hit D S i j = true
    · have c' := of_decide_eq_true c
      rw [if_pos c'.1, if_neg (fun q => q c'.2), eg, pk_bs, pc_draw, pk_bs, pc_miss hS hT, pk_bs]
      by_cases c2 : D 0 2 ≤ sp_dr (sp_gr (sp_fd (sp_hit D S i) (D 0 2) ee j).1)
      · have e1 := sp_fd_s1 c h0 c2
        have e2 := sp_fd_keep (i := D 2 0 - (j + 1)) (show (sp_fd (sp_hit D S i) (D 0 2) ee (j + 1)).2 = some j by rw [e1])
        rw [show j + 1 + (D 2 0 - (j + 1)) = D 2 0 by omega] at e2
        rw [e2, if_neg (by rw [nI_ltI (by omega) (by omega)]; omega)]
        simp only [nI_add, pk_mul]
      · have e1 := sp_fd_s2 c h0 c2
        have ih' := ih () (by rw [e1])
        rw [e1] at ih'
        rw [if_pos (by rw [nI_ltI (by omega) (by omega)]; omega), q_X11_findBy_142, show nI j + 1 = nI (j + 1) from nI_add j 1]
        exact ih'
    · have e1 := sp_fd_s3 (m := D 0 2) (ee := ee) c
      have ih' := ih () (by rw [e1]; exact h0)
      rw [e1] at ih'
      have fin : q_X11_findBy_142 N (q_X11_findBy_59 N K fu) Y V z (nI S) x3 (sp_fd (sp_hit D S i) (D 0 2) ee j).1 (nI k) (nI i) (nI j) = q_X11_findBy_59 N K fu Y V z (nI S) x3 (sp_fd (sp_hit D S i) (D 0 2) ee j).1 (nI k) (nI i) (nI (j + 1)) := by
        rw [q_X11_findBy_142, show nI j + 1 = nI (j + 1) from nI_add j 1]
      by_cases c3 : sp_bit S j
      · rw [if_pos c3, if_pos (fun q => c (decide_eq_true ⟨c3, q⟩)), fin]
        exact ih'
      · rw [if_neg c3, fin]
        exact ih'
theorem pc_fb20s (hN : 20000 ≤ N) (h : pk_JQ z Y V t u s D P T tl st hs img pl fp r0 r1 k) (hB : pk_JB D P T tl st hs img) (hs6 : S < 64) : ∃ V' k', q_X11_findBy_20 N N Y V z (nI S) 0 ee 0 = some (sp_fI (sp_fin (sp_FF D S (fun k => sp_next D (sp_rt D st.2.2.2 k))) 600 0 ee), Y, V') ∧ pk_offR z V V' ∧ pk_JQ z Y V' t u s D P T tl st hs img pl fp r0 r1 k' := by
  have hM := h.o.1
  have hz : bk_rR Y z 5 = some t := h.1.sd.2.2.1
  refine loop_i (σ := bk_Val × Int32) (fun fu j g => ∃ V' k', q_X11_findBy_20 N fu Y g.1 z (nI S) 0 g.2 (nI j) = some (sp_fI (sp_fin (sp_FF D S (fun k => sp_next D (sp_rt D st.2.2.2 k))) (600 - j) j g.2), Y, V') ∧ pk_offR z V V' ∧ pk_JQ z Y V' t u s D P T tl st hs img pl fp r0 r1 k') (fun j g => pk_offR z V g.1 ∧ ∃ k', pk_JQ z Y g.1 t u s D P T tl st hs img pl fp r0 r1 k') 600 ?_ ?_ N 0 (V, ee) (by omega) (by omega) ⟨pk_offR.rf, k, h⟩
  · intro fu g hV
    obtain ⟨g1, k2, g2⟩ := hV
    exact ⟨g.1, k2, by rw [q_X11_findBy_20, if_pos (by decide)]; rfl, g1, g2⟩
  · intro fu j g hj hV ih
    obtain ⟨g1, k2, g2⟩ := hV
    obtain ⟨V3, k3, f1, f2, f3⟩ := pc_inchIn (N := N) (i := j) hN g2 hB hj
    obtain ⟨-, hS3, -, hT3, -⟩ := f3.o
    have hf := pc_fb59 (N := N) (V := V3) (K := q_X11_findBy_20 N fu) (x3 := nI 0) (ee := g.2) (k := j) (by omega) hM hz hS3 hT3 hB.1 hs6 (sp_next_lt (w := sp_rt D st.2.2.2 j) hB.1)
    rw [q_X11_findBy_20, if_neg (show ¬ (600 : Int32) ≤ nI j from (show ¬ nI 600 ≤ nI j by rw [nI_leI (by omega) (by omega)]; omega))]
    simp (disch := omega) only [hM, pk_ckT, pk_bs, pk_letE, pk_bd2E, pk_bd3E, if_true, if_false, eq_self, not_true_eq_false, not_false_eq_true, true_and, and_true, Nat.not_lt_zero, Nat.zero_le, Nat.reduceEqDiff, Nat.reduceLT, Nat.reduceLeDiff, pk_ck, pk_lit, f1]
    rw [hf, show 600 - j = (600 - (j + 1)) + 1 by omega]
    unfold sp_fin
    rcases hc : (sp_FF D S (fun k => sp_next D (sp_rt D st.2.2.2 k)) j g.2).2 with _ | h'
    · rw [show (sp_fd (sp_hit D S (sp_next D (sp_rt D st.2.2.2 j))) (D 0 2) g.2 (D 2 0)).2 = none from hc]
      exact ih (V3, (sp_FF D S (fun k => sp_next D (sp_rt D st.2.2.2 k)) j g.2).1) ⟨g1.tr f2, k3, f3⟩
    · rw [show (sp_fd (sp_hit D S (sp_next D (sp_rt D st.2.2.2 j))) (D 0 2) g.2 (D 2 0)).2 = some h' from hc]
      exact ⟨V3, k3, rfl, g1.tr f2, f3⟩
theorem pc_find (hN : 20000 ≤ N) (hJ : pk_JC z Y V t u s D P T tl st hs img pl fp r0 r1) (hB : pk_JB D P T tl st hs img) (hs6 : S < 64) : ∃ Y' V', q_X11_findBy N Y V z ee (nI S) 0 = some (sp_fI (sp_fin (sp_FF D S (fun k => sp_next D (sp_rt D st.2.2.2 k))) 600 0 ee), Y', V') ∧ pk_offR z V V' ∧ pk_JC z Y' V' t u s D P T tl st hs img pl fp r0 r1 := by
  have hM := hJ.o.1
  unfold q_X11_findBy
  by_cases c : S = 0
  · refine ⟨Y, V, ?_, pk_offR.rf, hJ⟩
    rw [c, if_pos rfl, sp_fin_no (fun k e => sp_FF_0 k e)]
    rfl
  · obtain ⟨Y', V', k, s1, s2, s3⟩ := pc_setOut hN hJ hB
    obtain ⟨V2, k2, f1, f2, f3⟩ := pc_fb20s (N := N) (ee := ee) hN s3 hB hs6
    refine ⟨Y', V2, ?_, s2.tr f2, f3.jc⟩
    rw [if_neg (show ¬ nI S = (0 : Int32) from (show ¬ nI S = nI 0 by rw [nI_eq (by omega) (by omega)]; exact c)), if_pos rfl, pk_ck hM.1, s1, pk_bd2E, q_X11_findBy_14]
    exact f1
theorem pc_part {o : Option (Nat × Nat)} (ho : ∀ g, o = some g → g.1 < 600 ∧ g.2 < 6) (hc : c < 2) : q_X11_partOfFind N Y V (sp_fI o) (nI c) = some (sp_pI o c) := by
  unfold q_X11_partOfFind
  rcases o with _ | g
  · rw [if_pos (show sp_fI none = (-1 : Int32) from rfl)]
    rfl
  · obtain ⟨g1, g2⟩ := ho g rfl
    have e1 : ¬ sp_fI (some g) = (-1 : Int32) := by
      intro q
      have := pk_eqm1 (a := (g.1 + 1) * 6 + g.2) (by omega)
      exact this.mp q
    rw [if_neg e1]
    unfold sp_fI sp_pI
    simp (disch := omega) only [pk_lit, nI_eq]
    by_cases c0 : c = 0
    · rw [if_pos c0, if_pos c0, pk_div (by omega) (by omega) (by omega), show ((g.1 + 1) * 6 + g.2) / 6 = g.1 + 1 by omega]
    · rw [if_neg c0, if_neg c0, pk_remE (by omega) (by omega) (by omega), show ((g.1 + 1) * 6 + g.2) % 6 = g.2 by omega]
end
