/-! the reference's waiting acts and its code -/
def pk_wst (V : bk_Val) (b : Nat) : List Nat → Prop
  | [] => True
  | o :: W => bk_rI V b W.length = nI o ∧ pk_wst V b W
def pk_SX (r : Nat) (V : bk_Val) (h : Nat) (K W : List Nat) (d : Nat) (td : Nat → Nat) : Prop := bk_rI V r 46 = nI K.length ∧ (∀ i, i < K.length → bk_rI V (r + 12) i = nI (K.getD i 0)) ∧ bk_rI V r 47 = nI W.length ∧ pk_wst V (r + 13) W ∧ (∀ o ∈ W, o < 20) ∧ bk_rI V r 48 = nI d ∧ d ≤ 6 ∧ (∀ j, 1 ≤ j → j ≤ d → bk_rI V (r + 14) j = nI (td j)) ∧ bk_rI V r 50 = nI h
def pk_SR (r : Nat) (V : bk_Val) (T : Nat → Nat) (L p h : Nat) (K W : List Nat) (d : Nat) (td : Nat → Nat) : Prop := pk_PR r V T L p ∧ pk_SX r V h K W d td ∧ K.length + W.length ≤ 2 * p ∧ W.length ≤ p
/-- what the machine writes: its three numbers and three rows -/
def pk_frM (r : Nat) (V V' : bk_Val) : Prop := (∀ a, a ≠ r → a ≠ r + 12 → a ≠ r + 13 → a ≠ r + 14 → V'.1 a = V.1 a) ∧ (∀ k, k < 46 ∨ 48 < k → V'.1 r k = V.1 r k) ∧ V'.2 = V.2
def pk_frX (r : Nat) (V V' : bk_Val) : Prop := (∀ a, a ≠ r → a ≠ r + 12 → a ≠ r + 13 → a ≠ r + 14 → V'.1 a = V.1 a) ∧ (∀ k, k < 21 ∨ k = 23 ∨ k = 24 ∨ (30 < k ∧ k < 46) ∨ 48 < k → V'.1 r k = V.1 r k) ∧ (∀ a, a ≠ r → V'.2 a = V.2 a) ∧ (∀ k, k ≠ 31 → V'.2 r k = V.2 r k)
def tq_st (o : Nat) : Nat := if o = 5 then 1 else if o = 4 then 2 else if o = 3 then 3 else if o = 6 then 4 else if o = 7 then 4 else if o = 8 then 5 else if o = 9 then 5 else 6
def tq_dr (lo o : Nat) : Bool := decide (o < 14 ∧ lo ≤ tq_st o)
def tq_tu (td : Nat → Nat) (d v : Nat) : Nat → Nat := fun j => if j = d then v else td j
section
variable {N z t u s tl r a b c d k n j h m l p q q0 md wa s' i f e gg v S L g lo hi w o d2 : Nat} {Y Y' : bk_Lay} {V V' V2 : bk_Val} {x y x1 x2 x3 x4 x5 ee : Int32} {w1 w2 : Int64} {T T' R G In td td2 : Nat → Nat} {K W K2 W2 : List Nat}
theorem pk_frM.rf : pk_frM r V V := ⟨fun _ _ _ _ _ => rfl, fun _ _ => rfl, rfl⟩
theorem pk_frX.rf : pk_frX r V V := ⟨fun _ _ _ _ _ => rfl, fun _ _ => rfl, fun _ _ => rfl, fun _ _ => rfl⟩
theorem pk_frM.tr (h : pk_frM r V V') (h2 : pk_frM r V' V2) : pk_frM r V V2 := ⟨fun a q q2 q3 q4 => (h2.1 a q q2 q3 q4).trans (h.1 a q q2 q3 q4), fun k q => (h2.2.1 k q).trans (h.2.1 k q), h2.2.2.trans h.2.2⟩
theorem pk_frX.tr (h : pk_frX r V V') (h2 : pk_frX r V' V2) : pk_frX r V V2 := ⟨fun a q q2 q3 q4 => (h2.1 a q q2 q3 q4).trans (h.1 a q q2 q3 q4), fun k q => (h2.2.1 k q).trans (h.2.1 k q), fun a q => (h2.2.2.1 a q).trans (h.2.2.1 a q), fun k q => (h2.2.2.2 k q).trans (h.2.2.2 k q)⟩
theorem pk_frM.toX (h : pk_frM r V V') : pk_frX r V V' := ⟨h.1, fun k q => h.2.1 k (by omega), fun a _ => congrFun h.2.2 a, fun k _ => congrFun (congrFun h.2.2 r) k⟩
theorem pk_frU.toX (h : pk_frU r V V') : pk_frX r V V' := ⟨fun a q _ _ _ => h.1 a q, fun k q => h.2.1 k (by omega), h.2.2.1, h.2.2.2⟩
theorem pk_frM.ws (hk : 46 ≤ k ∧ k ≤ 48) : pk_frM r V (bk_wI V r k x) := ⟨fun _ q _ _ _ => pk_rowI q, fun j q => pk_slot (by omega), rfl⟩
theorem pk_frM.wr (hk : 12 ≤ k ∧ k ≤ 14) : pk_frM r V (bk_wI V (r + k) j x) := ⟨fun a q1 q2 q3 q4 => pk_rowI (by intro g; subst g; rcases (show k = 12 ∨ k = 13 ∨ k = 14 by omega) with g | g | g <;> subst g <;> contradiction), fun i q => by rw [pk_rowI (by omega)], rfl⟩
theorem pk_PR.frM (h : pk_PR r V T L p) (f : pk_frM r V V') : pk_PR r V' T L p := by
  obtain ⟨⟨a1, a2, a3, a4⟩, ⟨b1, b2, b3, b4, b5, b6, b7⟩, h3, h4⟩ := h
  have g : ∀ k, k < 46 ∨ 48 < k → bk_rI V' r k = bk_rI V r k := f.2.1
  refine ⟨⟨fun j hj => (congrFun (f.1 (r + 6) (by omega) (by omega) (by omega) (by omega)) j).trans (a1 j hj), a2, a3, (g 24 (by omega)).trans a4⟩, ⟨(g 25 (by omega)).trans b1, (g 26 (by omega)).trans b2, (g 27 (by omega)).trans b3, (g 28 (by omega)).trans b4, (g 29 (by omega)).trans b5, (g 30 (by omega)).trans b6, ?_⟩, h3, ⟨(g 21 (by omega)).trans h4.1, (g 22 (by omega)).trans h4.2⟩⟩
  show V'.2 r 31 = _
  rw [f.2.2]
  exact b7
theorem pk_FR.frM (h : pk_FR r V k e) (f : pk_frM r V V') : pk_FR r V' k e := ⟨(f.2.1 21 (by omega)).trans h.1, (f.2.1 22 (by omega)).trans h.2.1, h.2.2⟩
theorem pk_wst.of (hr : V'.1 b = V.1 b) : ∀ W, pk_wst V b W → pk_wst V' b W
  | [], _ => trivial
  | _ :: W, h => ⟨(congrFun hr W.length).trans h.1, pk_wst.of hr W h.2⟩
theorem pk_wst.wr : ∀ W, W.length ≤ k → pk_wst V b W → pk_wst (bk_wI V b k x) b W
  | [], _, _ => trivial
  | o :: W, hk, h => by
    rw [List.length_cons] at hk
    exact ⟨by rw [pk_rI_same, if_neg (by omega)]; exact h.1, pk_wst.wr W (by omega) h.2⟩
theorem pk_SX.frU (h : pk_SX r V gg K W d td) (f : pk_frU r V V') : pk_SX r V' gg K W d td := by
  obtain ⟨a1, a2, a3, a4, a5, a6, a7, a8, a9⟩ := h
  have g : ∀ k, 30 < k → bk_rI V' r k = bk_rI V r k := fun k q => f.2.1 k (by omega)
  exact ⟨(g 46 (by omega)).trans a1, fun i hi => (congrFun (f.1 (r + 12) (by omega)) i).trans (a2 i hi), (g 47 (by omega)).trans a3, a4.of (f.1 (r + 13) (by omega)) W, a5, (g 48 (by omega)).trans a6, a7, fun j q1 q2 => (congrFun (f.1 (r + 14) (by omega)) j).trans (a8 j q1 q2), (g 50 (by omega)).trans a9⟩
theorem pk_SX.frT (h : pk_SX r V gg K W d td) (f : pk_frT r V V') : pk_SX r V' gg K W d td := h.frU f.toU
theorem pr_puts (hS : pk_Rf Y r) (h : pk_SX r V gg K W d td) (hk : K.length < 1900) : ∃ V', q_X12_puts N Y V r (nI v) = some V' ∧ pk_frM r V V' ∧ pk_SX r V' gg (K ++ [v]) W d td := by
  obtain ⟨a1, a2, a3, a4, a5, a6, a7, a8, a9⟩ := h
  have f1 : pk_frM r V (bk_wI V (r + 12) K.length (nI v)) := pk_frM.wr (by omega)
  refine ⟨bk_wI (bk_wI V (r + 12) K.length (nI v)) r 46 (nI (K.length + 1)), ?_, f1.tr (pk_frM.ws (by omega)), ?_, fun i hi => ?_, ?_, ?_, a5, ?_, a7, fun j q1 q2 => ?_, ?_⟩
  · unfold q_X12_puts
    have e2 : bk_rI (bk_wI V (r + 12) K.length (nI v)) r 46 = nI K.length := (pk_rI_ne (by omega)).trans a1
    simp (disch := omega) only [hS, pk_ckT, pk_bs, pk_letE, pk_bd2E, pk_bd3E, if_true, if_false, eq_self, not_true_eq_false, not_false_eq_true, true_and, and_true, Nat.not_lt_zero, Nat.zero_le, Nat.reduceEqDiff, Nat.reduceLT, Nat.reduceLeDiff, pk_ck, a1, nI_clamp, pk_inE, pk_lit, e2, nI_add]
  · rw [pk_rI_same, if_pos rfl, List.length_append]
    rfl
  · rw [pk_rI_ne (by omega), pk_rI_same]
    rw [List.length_append, List.length_cons, List.length_nil] at hi
    by_cases hc : i = K.length
    · rw [if_pos hc, hc, List.getD_eq_getElem?_getD, List.getElem?_append_right (Nat.le_refl _), Nat.sub_self]
      rfl
    · rw [if_neg hc, a2 i (by omega), List.getD_eq_getElem?_getD, List.getD_eq_getElem?_getD, List.getElem?_append_left (by omega)]
  · rw [pk_rI_same, if_neg (by omega), pk_rI_ne (by omega)]
    exact a3
  · exact a4.of (by rw [pk_rowI (by omega), pk_rowI (by omega)]) W
  · rw [pk_rI_same, if_neg (by omega), pk_rI_ne (by omega)]
    exact a6
  · rw [pk_rI_ne (by omega), pk_rI_ne (by omega)]
    exact a8 j q1 q2
  · rw [pk_rI_same, if_neg (by omega), pk_rI_ne (by omega)]
    exact a9
theorem pr_waits (hS : pk_Rf Y r) (h : pk_SX r V gg K W d td) (hk : W.length < 950) (hv : v < 20) : ∃ V', q_X12_waitsFor N Y V r (nI v) = some V' ∧ pk_frM r V V' ∧ pk_SX r V' gg K (v :: W) d td := by
  obtain ⟨a1, a2, a3, a4, a5, a6, a7, a8, a9⟩ := h
  have f1 : pk_frM r V (bk_wI V (r + 13) W.length (nI v)) := pk_frM.wr (by omega)
  refine ⟨bk_wI (bk_wI V (r + 13) W.length (nI v)) r 47 (nI (W.length + 1)), ?_, f1.tr (pk_frM.ws (by omega)), ?_, fun i hi => ?_, ?_, ⟨?_, ?_⟩, ?_, ?_, a7, fun j q1 q2 => ?_, ?_⟩
  · unfold q_X12_waitsFor
    have e2 : bk_rI (bk_wI V (r + 13) W.length (nI v)) r 47 = nI W.length := (pk_rI_ne (by omega)).trans a3
    simp (disch := omega) only [hS, pk_ckT, pk_bs, pk_letE, pk_bd2E, pk_bd3E, if_true, if_false, eq_self, not_true_eq_false, not_false_eq_true, true_and, and_true, Nat.not_lt_zero, Nat.zero_le, Nat.reduceEqDiff, Nat.reduceLT, Nat.reduceLeDiff, pk_ck, a3, nI_clamp, pk_inE, pk_lit, e2, nI_add]
  · rw [pk_rI_same, if_neg (by omega), pk_rI_ne (by omega)]
    exact a1
  · rw [pk_rI_ne (by omega), pk_rI_ne (by omega)]
    exact a2 i hi
  · rw [pk_rI_same, if_pos rfl, List.length_cons]
  · rw [pk_rI_ne (by omega), pk_rI_same, if_pos rfl]
  · exact pk_wst.of (pk_rowI (by omega)) W (a4.wr W (Nat.le_refl _))
  · intro o ho
    rcases List.mem_cons.mp ho with q | q
    · omega
    · exact a5 o q
  · rw [pk_rI_same, if_neg (by omega), pk_rI_ne (by omega)]
    exact a6
  · rw [pk_rI_ne (by omega), pk_rI_ne (by omega)]
    exact a8 j q1 q2
  · rw [pk_rI_same, if_neg (by omega), pk_rI_ne (by omega)]
    exact a9
theorem pr_open (ho : o < 20) : q_X12_isOpen N Y V (nI o) = some (pk_B (14 ≤ o)) := by
  unfold q_X12_isOpen
  simp (disch := omega) only [pk_lit, nI_ltI]
  by_cases q : 14 ≤ o
  · rw [if_neg (by omega), pk_Bt q]
  · rw [if_pos (by omega), pk_Bf q]
theorem pr_str0 : ∀ o, o < 20 → q_X12_strength 0 (fun _ => (0, 0), fun _ _ => none, 0) (fun _ _ => 0, fun _ _ => 0) (nI o) = some (nI (tq_st o)) := by decide +kernel
theorem pr_str (ho : o < 20) : q_X12_strength N Y V (nI o) = some (nI (tq_st o)) := (show q_X12_strength N Y V (nI o) = q_X12_strength 0 (fun _ => (0, 0), fun _ _ => none, 0) (fun _ _ => 0, fun _ _ => 0) (nI o) from rfl).trans (pr_str0 o ho)
theorem tq_st_b : tq_st o ≤ 6 := by
  unfold tq_st
  repeat' split
  all_goals omega
theorem pr_drops0 (hS : pk_Rf Y r) (hlo : lo < 10) : ∀ W fu K V, W.length < fu → pk_SX r V gg K W d td → K.length + W.length ≤ 1899 → W.length ≤ 950 → ∃ V', q_X12_drops_0 N Y fu V r (nI lo) = some V' ∧ pk_frM r V V' ∧ pk_SX r V' gg (K ++ W.takeWhile (tq_dr lo)) (W.dropWhile (tq_dr lo)) d td := by
  intro W
  induction W with
  | nil =>
    intro fu K V hf h hl hw
    refine ⟨V, ?_, pk_frM.rf, by rw [List.takeWhile_nil, List.dropWhile_nil, List.append_nil]; exact h⟩
    have e1 := h.2.2.1
    rw [List.length_nil] at e1
    rw [show fu = fu - 1 + 1 by omega, q_X12_drops_0, pk_ck hS.1, e1, if_pos (show nI 0 ≤ (0 : Int32) by decide)]
  | cons o W ih =>
    intro fu K V hf h hl hw
    rw [List.length_cons] at hf hl hw
    have h0 := h
    obtain ⟨a1, a2, a3, a4, a5, a6, a7, a8, a9⟩ := h
    rw [List.length_cons] at a3
    have ho := a5 o List.mem_cons_self
    have hst := tq_st_b (o := o)
    have o1 := pr_open (N := N) (Y := Y) (V := V) ho
    have o2 := pr_str (N := N) (Y := Y) (V := V) ho
    have e0 : q_X12_drops_0 N Y fu V r (nI lo) = if tq_dr lo o = true then (q_X12_puts N Y (bk_wI V r 47 (nI W.length)) r (nI o)).bind (fun V_15 => q_X12_drops_0 N Y (fu - 1) V_15 r (nI lo)) else some V := by
      obtain ⟨f', rfl⟩ : ∃ f', fu = f' + 1 := ⟨fu - 1, by omega⟩
      have e3 : bk_rI (bk_wI V r 47 (nI W.length)) r 47 = nI W.length := by rw [pk_rI_same, if_pos rfl]
      have e4 : bk_rI (bk_wI V r 47 (nI W.length)) (r + 13) W.length = nI o := (pk_rI_ne (by omega)).trans a4.1
      rw [q_X12_drops_0, pk_ck hS.1, a3, if_neg (show ¬ nI (W.length + 1) ≤ (0 : Int32) from (show ¬ nI (W.length + 1) ≤ nI 0 by rw [nI_leI (by omega) (by omega)]; omega))]
      simp (disch := omega) only [hS, pk_ckT, pk_bs, pk_letE, pk_bd2E, pk_bd3E, if_true, if_false, eq_self, not_true_eq_false, not_false_eq_true, true_and, and_true, Nat.not_lt_zero, Nat.zero_le, Nat.reduceEqDiff, Nat.reduceLT, Nat.reduceLeDiff, pk_ck, pk_lit, pk_sub, Nat.add_sub_cancel, pk_inE, nI_clamp, a4.1, o1, o2, pk_B0, nI_ltI, e3, e4]
      by_cases q1 : 14 ≤ o
      · rw [if_neg (fun g => g q1), if_neg (by unfold tq_dr; rw [decide_eq_true_eq]; omega)]
      · rw [if_pos q1]
        by_cases q2 : tq_st o < lo
        · rw [if_pos q2, if_neg (by unfold tq_dr; rw [decide_eq_true_eq]; omega)]
        · rw [if_neg q2, if_pos (by unfold tq_dr; rw [decide_eq_true_eq]; omega)]
    rw [e0]
    by_cases q : tq_dr lo o = true
    · have h1 : pk_SX r (bk_wI V r 47 (nI W.length)) gg K W d td := ⟨by rw [pk_rI_same, if_neg (by omega)]; exact a1, fun i hi => by rw [pk_rI_ne (by omega)]; exact a2 i hi, by rw [pk_rI_same, if_pos rfl], pk_wst.of (pk_rowI (by omega)) W a4.2, fun o' ho' => a5 o' (List.mem_cons_of_mem _ ho'), by rw [pk_rI_same, if_neg (by omega)]; exact a6, a7, fun j q1 q2 => by rw [pk_rI_ne (by omega)]; exact a8 j q1 q2, by rw [pk_rI_same, if_neg (by omega)]; exact a9⟩
      obtain ⟨V1, b1, b2, b3⟩ := pr_puts (N := N) (v := o) hS h1 (by omega)
      obtain ⟨V2, y1, y2, y3⟩ := ih (fu - 1) (K ++ [o]) V1 (by omega) b3 (by rw [List.length_append]; show K.length + 1 + W.length ≤ 1899; omega) (by omega)
      refine ⟨V2, ?_, ((pk_frM.ws (by omega)).tr b2).tr y2, ?_⟩
      · rw [if_pos q, b1, pk_bs, y1]
      · rw [List.takeWhile_cons_of_pos q, List.dropWhile_cons_of_pos q]
        rw [List.append_assoc] at y3
        exact y3
    · refine ⟨V, ?_, pk_frM.rf, ?_⟩
      · rw [if_neg q]
      · rw [List.takeWhile_cons_of_neg q, List.dropWhile_cons_of_neg q, List.append_nil]
        exact h0
/-- the top of what waits is weaker, or open -/
def tq_lo (lo : Nat) : List Nat → Prop
  | [] => True
  | o :: _ => tq_dr lo o = false
theorem tq_tw : ∀ K2 : List Nat, (∀ o ∈ K2, tq_dr lo o = true) → tq_lo lo W → (K2 ++ W).takeWhile (tq_dr lo) = K2 ∧ (K2 ++ W).dropWhile (tq_dr lo) = W
  | [], _, h => by
    cases W with
    | nil => exact ⟨rfl, rfl⟩
    | cons o W =>
      have h' : tq_dr lo o = false := h
      have hq : ¬ tq_dr lo o = true := by rw [h']; exact fun g => Bool.noConfusion g
      rw [List.nil_append, List.takeWhile_cons_of_neg hq, List.dropWhile_cons_of_neg hq]
      exact ⟨rfl, rfl⟩
  | o :: K2, h1, h => by
    have ih := tq_tw K2 (fun o' ho' => h1 o' (List.mem_cons_of_mem _ ho')) h
    have h0 := h1 o List.mem_cons_self
    rw [List.cons_append, List.takeWhile_cons_of_pos h0, List.dropWhile_cons_of_pos h0, ih.1, ih.2]
    exact ⟨rfl, rfl⟩
theorem pr_drops (hN : 1000 ≤ N) (hS : pk_Rf Y r) (hlo : lo < 10) (h : pk_SR r V T L p gg K (K2 ++ W) d td) (h1 : ∀ o ∈ K2, tq_dr lo o = true) (h2 : tq_lo lo W) : ∃ V', q_X12_drops N Y V r (nI lo) = some V' ∧ pk_frM r V V' ∧ pk_SR r V' T L p gg (K ++ K2) W d td := by
  obtain ⟨a1, a2, a3, a4⟩ := h
  have hp := a1.2.2.1
  have hL := a1.1.2.2.1
  obtain ⟨V', e1, e2, e3⟩ := pr_drops0 (N := N) (lo := lo) hS hlo (K2 ++ W) N K V (by omega) a2 (by omega) (by omega)
  rw [(tq_tw K2 h1 h2).1, (tq_tw K2 h1 h2).2] at e3
  rw [List.length_append] at a3 a4
  exact ⟨V', e1, e2, a1.frM e2, e3, by rw [List.length_append]; omega, by omega⟩
/-- after a fault all ends -/
theorem pr_345 (hN : 2000 ≤ N) (hS : pk_Rf Y r) (h : pk_SX r V gg K W d td) (hl : K.length + W.length ≤ 1890) (hw : W.length ≤ 950) : ∃ V', q_X12_expression_345 N Y V r = some V' ∧ pk_frM r V V' ∧ pk_SX r V' gg (K ++ W.takeWhile (tq_dr 0) ++ [0]) (W.dropWhile (tq_dr 0)) d td := by
  obtain ⟨V1, e1, e2, e3⟩ := pr_drops0 (N := N) (lo := 0) hS (by omega) W N K V (by omega) h (by omega) hw
  have hln : (W.takeWhile (tq_dr 0)).length ≤ W.length := (List.takeWhile_prefix (tq_dr 0)).length_le
  obtain ⟨V2, b1, b2, b3⟩ := pr_puts (N := N) (v := 0) hS e3 (by rw [List.length_append]; omega)
  refine ⟨V2, ?_, e2.tr b2, b3⟩
  unfold q_X12_expression_345
  rw [pk_ck hS.1, show q_X12_drops N Y V r 0 = some V1 from e1, pk_bs, show q_X12_puts N Y V1 r 0 = some V2 from b1, pk_bs]
theorem pr_29F (hN : 2000 ≤ N) (hS : pk_Rf Y r) (hf : pk_FR r V k e) (h : pk_SX r V gg K W d td) (hl : K.length + W.length ≤ 1890) (hw : W.length ≤ 950) (hfu : 0 < f) : ∃ V', q_X12_expression_29 N Y f V r (nI 1) = some V' ∧ pk_FR r V' k e ∧ pk_frM r V V' := by
  obtain ⟨V', e1, e2, -⟩ := pr_345 hN hS h hl hw
  refine ⟨V', ?_, hf.frM e2, e2⟩
  rw [show f = f - 1 + 1 by omega, q_X12_expression_29, if_neg (show ¬ nI 1 = (0 : Int32) by decide), pk_ck hS.1, pr_goodN hS hf, pk_bs, if_pos (show nI 0 = (0 : Int32) from rfl)]
  unfold q_X12_expression_325
  rw [pk_ck hS.1, pr_goodN hS hf, pk_bs, if_pos (show nI 0 = (0 : Int32) from rfl), e1]
theorem tq_wI_eq (hk : k < 35) (hj : j ≤ 35) : (tq_wI j = nI k) = (j = k) := by
  unfold tq_wI
  by_cases q : j < 35
  · rw [if_pos q, nI_eq (by omega) (by omega)]
  · rw [if_neg q]
    refine propext ⟨fun g => ?_, fun g => by omega⟩
    exact absurd g.symm (fun g => (pk_eqm1 (by omega)).mp g)
theorem pr_goS (hN : 1000 ≤ N) (hS : pk_Rf Y r) (h : pk_SR r V T L p gg K W d td) (hk : K2.length + W2.length ≤ K.length + W.length + 2) (hw2 : W2.length ≤ W.length + 1) (hf : pk_frM r V V') (hx : pk_SX r V' gg K2 W2 d2 td2) (ht : tq_k T L p ≠ 0) : ∃ V2, q_X12_goes N Y V' r = some V2 ∧ pk_frX r V V2 ∧ pk_SR r V2 T L (tq_e T L p) gg K2 W2 d2 td2 := by
  obtain ⟨a1, a2, a3, a4⟩ := h
  obtain ⟨V2, e1, e2, e3⟩ := pr_goesP (N := N) hN hS (a1.frM hf)
  have := tq_e_gt (T := T) a1.1.2.2.1 a1.2.2.1 ht
  exact ⟨V2, e1, hf.toX.tr e2.toU.toX, e3, hx.frT e2, by omega, by omega⟩
end
