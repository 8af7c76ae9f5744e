/-! the reference's machine reads what the relation says -/
def pk_xR (N : Nat) (Y : bk_Lay) (r h w L : Nat) (T : Nat → Nat) (V : bk_Val) (fu p : Nat) (K W : List Nat) (td : Nat → Nat) (l : Nat) (o : Nat × Nat × List Nat) (X : Option bk_Val) : Prop :=
  (o.1 = 0 ∧ ∃ (fu' : Nat) (V' : bk_Val) (k1 pe : List Nat) (td' : Nat → Nat), X = pk_Ex N Y r fu' V' ∧ pk_frX r V V' ∧ pk_SR r V' T L o.2.1 h (K ++ k1) (pe ++ W) (w + 1) td' ∧ k1 ++ pe = tq_rc h o.2.2 ∧ (∀ x ∈ pe, tq_dr l x = true) ∧ (∀ j, 1 ≤ j → j ≤ w → td' j = td j) ∧ (5 ≤ l → td' (w + 1) = td (w + 1)) ∧ tq_sp T L l o.2.1 (td' (w + 1)) ∧ fu + p ≤ fu' + o.2.1) ∨
  (o.1 ≠ 0 ∧ ∃ V', X = some V' ∧ pk_FR r V' o.1 o.2.1 ∧ pk_frX r V V')
def pk_zq1 (N : Nat) (Y : bk_Lay) (r h L : Nat) (T : Nat → Nat) (w p : Nat) (o : Nat × Nat × List Nat) : Prop := ∀ V K W td f fu, L + 3 ≤ f + p → L + 2 ≤ fu + p → tq_lo 1 W → pk_SR r V T L p h K W w td → pk_xR N Y r h w L T V fu p K W td 1 o ((q_X12_deeper N Y V r).bind fun V1 => (q_X12_operand_4 N Y f V1 r (nI 1) (nI 1)).bind (pk_Ex N Y r fu))
def pk_zq2 (N : Nat) (Y : bk_Lay) (r h L : Nat) (T : Nat → Nat) (l w p : Nat) (c : List Nat) (o : Nat × Nat × List Nat) : Prop := ∀ V K W td fu k1 pe, L + 2 ≤ fu + p → tq_lo l W → pk_SR r V T L p h (K ++ k1) (pe ++ W) (w + 1) td → k1 ++ pe = tq_rc h c → (∀ x ∈ pe, tq_dr l x = true) → tq_sp T L (l + 1) p (td (w + 1)) → pk_xR N Y r h w L T V fu p K W td l o (pk_Ex N Y r fu V)
def pk_zq3 (N : Nat) (Y : bk_Lay) (r h L : Nat) (T : Nat → Nat) (l w p n : Nat) (o : Nat × Nat × List Nat) : Prop := ∀ V K W td f fu g, L + 2 ≤ f + p → L + 2 ≤ fu + p → 8 ≤ g + n → n ≤ 6 → tq_lo l W → td (w + 1) = 0 → pk_SR r V T L p h K (List.replicate n 3 ++ W) (w + 1) td → pk_xR N Y r h w L T V fu p K W td l o ((q_X12_operand_18 N Y (q_X12_operand_4 N Y f) g V r (nI 1) (nI n)).bind (pk_Ex N Y r fu))
def pk_zq4 (N : Nat) (Y : bk_Lay) (r h L : Nat) (T : Nat → Nat) (l w p : Nat) (o : Nat × Nat × List Nat) : Prop := ∀ V K W td f fu x, L + 2 ≤ f + p → L + 2 ≤ fu + p → tq_lo l W → (l = 4 → td (w + 1) = 0) → pk_SR r V T L p h K W (w + 1) td → pk_xR N Y r h w L T V fu p K W td l o ((q_X12_operand_75 N Y (q_X12_operand_4 N Y f) V r x).bind (pk_Ex N Y r fu))
section
variable {N z t u s tl r a b d k n j h m l p p' p1 p2 q q0 md wa s' i f e gg v S L g lo hi w d2 fu fu1 tag : Nat} {Y Y' : bk_Lay} {V V' V1 V2 : bk_Val} {x y x1 x2 x3 x4 x5 ee : Int32} {w1 w2 : Int64} {T T' R G In td td1 td2 : Nat → Nat} {K W K2 W2 k1 pe c c2 : List Nat} {o : Nat × Nat × List Nat} {X : Option bk_Val}
theorem tq_dr_m (h : tq_dr (l + 1) k = true) : tq_dr l k = true := by
  unfold tq_dr at *
  rw [decide_eq_true_eq] at *
  omega
theorem tq_dr_0 (h : tq_dr l k = true) : tq_dr 0 k = true := by
  unfold tq_dr at *
  rw [decide_eq_true_eq] at *
  omega
theorem tq_dr_lt (h : tq_dr l k = true) : k < 14 ∧ l ≤ 6 := by
  have := tq_st_b (o := k)
  unfold tq_dr at h
  rw [decide_eq_true_eq] at h
  omega
theorem tq_lo_m (h : tq_lo l W) : tq_lo (l + 1) W := by
  cases W with
  | nil => trivial
  | cons a W =>
    have h' : tq_dr l a = false := h
    show tq_dr (l + 1) a = false
    cases q : tq_dr (l + 1) a with
    | false => rfl
    | true => rw [tq_dr_m q] at h'; exact h'
theorem tq_tag (hl : tq_lv l) (ho : tq_o T L l p ≠ 0) : tq_dr l (sp_tag (tq_o T L l p)) = true ∧ tq_dr (l + 1) (sp_tag (tq_o T L l p)) = false ∧ tq_rc h [20000 + tq_o T L l p] = [sp_tag (tq_o T L l p)] := by
  have e : tq_rc h [20000 + tq_o T L l p] = [sp_tag (tq_o T L l p)] := by
    show (if _ then _ else _) ++ [] = _
    rw [if_neg (by omega), if_neg (by omega), Nat.add_sub_cancel_left]
    rfl
  rw [e]
  rcases hl with q | q | q | q <;> subst q
  · rw [tq_o1] at ho ⊢
    split at ho
    · rename_i g; rw [if_pos g]; decide
    · exact absurd rfl ho
  · rw [tq_o2] at ho ⊢
    split at ho
    · rename_i g; rw [if_pos g]; decide
    · exact absurd rfl ho
  · rw [tq_o5] at ho ⊢
    split at ho
    · rename_i g; rw [if_pos g]; decide
    · rename_i g
      rw [if_neg g]
      split at ho
      · rename_i g2; rw [if_pos g2]; decide
      · exact absurd rfl ho
  · rw [tq_o6] at ho ⊢
    split at ho
    · rename_i g; rw [if_pos g]; decide
    · rename_i g
      rw [if_neg g]
      split at ho
      · rename_i g2; rw [if_pos g2]; decide
      · exact absurd rfl ho
theorem tq_tag4 (ho : tq_o T L 4 p ≠ 0) : tq_dr 4 (sp_tag (tq_o T L 4 p)) = true ∧ tq_dr 5 (sp_tag (tq_o T L 4 p)) = false ∧ tq_rc h [20000 + tq_o T L 4 p] = [sp_tag (tq_o T L 4 p)] := by
  have e : tq_rc h [20000 + tq_o T L 4 p] = [sp_tag (tq_o T L 4 p)] := by
    show (if _ then _ else _) ++ [] = _
    rw [if_neg (by omega), if_neg (by omega), Nat.add_sub_cancel_left]
    rfl
  rw [e]
  rw [tq_o4] at ho ⊢
  split at ho
  · rename_i g; rw [if_pos g]; decide
  · rename_i g
    rw [if_neg g]
    split at ho
    · rename_i g2; rw [if_pos g2]; decide
    · exact absurd rfl ho
theorem pk_xR.fr (H : pk_xR N Y r h w L T V1 fu1 p1 K W td1 l o X) (f : pk_frX r V V1) (ht : ∀ j, 1 ≤ j → j ≤ w → td1 j = td j) (h5 : 5 ≤ l → td1 (w + 1) = td (w + 1)) (hfu : fu + p ≤ fu1 + p1) : pk_xR N Y r h w L T V fu p K W td l o X := by
  rcases H with ⟨a, fu', V', k1, pe, td', a1, a2, a3, a4, a5, a6, a7, a8, a9⟩ | ⟨a, V', a1, a2, a3⟩
  · exact Or.inl ⟨a, fu', V', k1, pe, td', a1, f.tr a2, a3, a4, a5, fun j q1 q2 => (a6 j q1 q2).trans (ht j q1 q2), fun q => (a7 q).trans (h5 q), a8, by omega⟩
  · exact Or.inr ⟨a, V', a1, a2, f.tr a3⟩
theorem pk_xR.F (H : pk_xR N Y r h w L T V1 fu1 p1 K2 W2 td1 l (k + 1, e, c) X) (f : pk_frX r V V1) : pk_xR N Y r h d2 L T V fu p K W td lo (k + 1, e, c) X := by
  rcases H with ⟨a, -⟩ | ⟨a, V', a1, a2, a3⟩
  · exact absurd a (by simp)
  · exact Or.inr ⟨a, V', a1, a2, f.tr a3⟩
theorem pk_xR.ex (hN : 2000 ≤ N) (hS : pk_Rf Y r) (hf : pk_FR r V1 k e) (hx : pk_SX r V1 gg K2 W2 d td1) (hl : K2.length + W2.length ≤ 1890) (hw : W2.length ≤ 950) (hfu : 0 < fu1) (f : pk_frX r V V1) (hk : k ≠ 0) : pk_xR N Y r h w L T V fu p K W td l (k, e, c) (pk_Ex N Y r fu1 V1) := by
  obtain ⟨V2, e1, e2, e3⟩ := pr_29F hN hS hf hx hl hw hfu
  exact Or.inr ⟨hk, V2, e1, e2, f.tr e3.toX⟩
/-- a part -/
theorem pm_num (hN : 2000 ≤ N) (hS : pk_Rf Y r) (q0 : tq_k T L p = 2) (q1 : tq_e T L p - tq_s T L p ≤ 4) : pk_zq4 N Y r h L T 7 w p (0, tq_e T L p, [tq_v T L p]) := by
  intro V K W td f fu x hf hfu hlo h4 hs
  have hp := hs.1.2.2.1
  have hL := hs.1.1.2.2.1
  have eg := tq_e_gt (T := T) hL hp (by omega)
  obtain ⟨V', e1, e2, e3⟩ := pr_partN (N := N) (by omega) hS hs q0 q1
  rw [pr_75N hS hs.1 (fun g => by have := g.1; omega), pr_op4z hS (by omega), e1, pk_bs]
  refine Or.inl ⟨rfl, fu, V', [1, tq_v T L p], [], td, rfl, e2, e3, ?_, fun x hx => absurd hx List.not_mem_nil, fun _ _ _ => rfl, fun _ => rfl, ⟨fun l' q1 q2 => by rcases q2 with g | g | g | g <;> omega, fun g => by omega⟩, by show fu + p ≤ fu + tq_e T L p; omega⟩
  show _ = (if _ then _ else _) ++ []
  rw [if_pos (tq_v_lt hL hp), List.append_nil]
theorem pm_val (hN : 2000 ≤ N) (hS : pk_Rf Y r) (hh : h < 2) (q0 : tq_k T L p = 1) (q1 : tq_vl h (tq_w T L p) < 9) : pk_zq4 N Y r h L T 7 w p (0, tq_e T L p, [10000 + tq_vl h (tq_w T L p)]) := by
  intro V K W td f fu x hf hfu hlo h4 hs
  have hp := hs.1.2.2.1
  have hL := hs.1.1.2.2.1
  have eg := tq_e_gt (T := T) hL hp (by omega)
  obtain ⟨V', e1, e2, e3⟩ := pr_partV (N := N) (by omega) hS hh hs q0 q1
  rw [pr_75N hS hs.1 (fun g => by have := g.1; omega), pr_op4z hS (by omega), e1, pk_bs]
  refine Or.inl ⟨rfl, fu, V', [2, sp_vm h (tq_vl h (tq_w T L p))], [], td, rfl, e2, e3, ?_, fun x hx => absurd hx List.not_mem_nil, fun _ _ _ => rfl, fun _ => rfl, ⟨fun l' q1 q2 => by rcases q2 with g | g | g | g <;> omega, fun g => by omega⟩, by show fu + p ≤ fu + tq_e T L p; omega⟩
  show _ = (if _ then _ else _) ++ []
  rw [if_neg (by omega), if_pos (by omega), Nat.add_sub_cancel_left, List.append_nil]
theorem pm_bad (hN : 2000 ≤ N) (hS : pk_Rf Y r) (hh : h < 2) (h4 : ¬ tq_sn T L p 40) (ho : (k = 2 ∧ tq_k T L p = 2 ∧ 4 < tq_e T L p - tq_s T L p) ∨ (k = 3 ∧ tq_k T L p = 1 ∧ tq_vl h (tq_w T L p) = 9) ∨ (k = 1 ∧ tq_k T L p ≠ 2 ∧ tq_k T L p ≠ 1)) : pk_zq4 N Y r h L T 7 w p (k, tq_s T L p, []) := by
  intro V K W td f fu x hf hfu hlo _ hs
  have hp := hs.1.2.2.1
  have hL := hs.1.1.2.2.1
  have hb := hs.2.2.1
  have hb2 := hs.2.2.2
  obtain ⟨V', K2, e1, e2, e3, e4, e5⟩ := pr_partF (N := N) (by omega) hS hh hs ho
  rw [pr_75N hS hs.1 h4, pr_op4z hS (by omega), e1, pk_bs]
  exact pk_xR.ex hN hS e3 e4 (by omega) (by omega) (by omega) e2 (by omega)
/-- a bracket opens -/
theorem pr_par (hN : 2000 ≤ N) (hS : pk_Rf Y r) (hs : pk_SR r V T L p h K W (w + 1) td) (q0 : tq_sn T L p 40) : ∃ V8, (q_X12_operand_75 N Y (q_X12_operand_4 N Y f) V r x).bind (pk_Ex N Y r fu) = ((q_X12_deeper N Y V8 r).bind fun V1 => (q_X12_operand_4 N Y f V1 r (nI 1) (nI 1)).bind (pk_Ex N Y r fu)) ∧ pk_frX r V V8 ∧ pk_SR r V8 T L (tq_e T L p) h K (14 :: W) (w + 1) td := by
  have hp := hs.1.2.2.1
  have hL := hs.1.1.2.2.1
  have hb2 := hs.2.2.2
  obtain ⟨V1, b1, b2, b3⟩ := pr_waits (N := N) (v := 14) hS hs.2.1 (by omega) (by omega)
  obtain ⟨V2, g1, g2, g3⟩ := pr_goS (N := N) (by omega) hS hs (K2 := K) (W2 := 14 :: W) (by rw [List.length_cons]; omega) (by rw [List.length_cons]; omega) b2 b3 (by have := q0.1; omega)
  refine ⟨V2, ?_, g2, g3⟩
  rw [pr_75P hS hs.1 q0, b1, pk_bs, g1, pk_bs]
  cases q_X12_deeper N Y V2 r <;> rfl
theorem pr_325N (hN : 2000 ≤ N) (hS : pk_Rf Y r) (hs : pk_SR r V T L p gg K W (d + 2) td) : ∃ V', q_X12_expression_325 N Y V r = some V' ∧ pk_FR r V' 1 (tq_s T L p) ∧ pk_frX r V V' := by
  have ⟨a1, a2, a3, a4⟩ := hs
  have hp := hs.1.2.2.1
  have hL := hs.1.1.2.2.1
  have e48 : bk_rI V r 48 = nI (d + 2) := a2.2.2.2.2.2.1
  have d6 : d + 2 ≤ 6 := a2.2.2.2.2.2.2.1
  obtain ⟨V1, w1, w2, w3, -, -⟩ := pr_wrongY (N := N) (k := 1) hS a1 (by omega)
  obtain ⟨V2, b1, b2, -⟩ := pr_345 hN hS (a2.frU w2) (by omega) (by omega)
  refine ⟨V2, ?_, w3.frM b2, w2.toX.tr b2.toX⟩
  unfold q_X12_expression_325
  rw [pk_ck hS.1, pr_goodY hS a1.2.2.2, pk_bs, if_neg pk_n10, e48, if_neg (show ¬ nI (d + 2) ≤ (1 : Int32) from (show ¬ nI (d + 2) ≤ nI 1 by rw [nI_leI (by omega) (by omega)]; omega)), show q_X12_wrong N Y V r 1 = some V1 from w1, pk_bs, b1]
theorem pm_par (hN : 2000 ≤ N) (hS : pk_Rf Y r) (q0 : tq_sn T L p 40) (h1 : pk_zq1 N Y r h L T (w + 1) (tq_e T L p) (0, p', c)) (q2 : tq_sn T L p' 41) : pk_zq4 N Y r h L T 7 w p (0, tq_e T L p', c) := by
  intro V K W td f fu x hf hfu hlo _ hs
  have hp := hs.1.2.2.1
  have hL := hs.1.1.2.2.1
  have eg := tq_e_gt (T := T) hL hp (by have := q0.1; omega)
  obtain ⟨V8, g1, g2, g3⟩ := pr_par (N := N) (f := f) (fu := fu) (x := x) hN hS hs q0
  rw [g1]
  rcases h1 V8 K (14 :: W) td f fu (by omega) (by omega) rfl g3 with ⟨-, fu', V', k1, pe, td', a1, a2, a3, a4, a5, a6, a7, a8, a9⟩ | ⟨a, -⟩
  · rw [a1]
    have hp' : p' ≤ L := a3.1.2.2.1
    have eg' := tq_e_gt (T := T) hL hp' (by have := q2.1; omega)
    have a9' : fu + tq_e T L p ≤ fu' + p' := a9
    obtain ⟨V3, b1, b2, b3⟩ := pr_exC (N := N) (fu := fu' - 1) (by omega) hS a3 (fun o ho => tq_dr_0 (a5 o ho)) q2
    rw [show fu' - 1 + 1 = fu' by omega] at b1
    rw [b1]
    refine Or.inl ⟨rfl, fu' - 1, V3, k1 ++ pe, [], td', rfl, (g2.tr a2).tr b2, ?_, by rw [List.append_nil]; exact a4, fun x hx => absurd hx List.not_mem_nil, fun j q1 q2 => a6 j q1 (by omega), fun _ => a6 (w + 1) (by omega) (by omega), ⟨fun l' q1 q2 => by rcases q2 with g | g | g | g <;> omega, fun g => by omega⟩, by show fu + p ≤ fu' - 1 + tq_e T L p'; omega⟩
    rw [← List.append_assoc]
    exact b3
  · exact absurd rfl a
theorem pm_parN (hN : 2000 ≤ N) (hS : pk_Rf Y r) (q0 : tq_sn T L p 40) (h1 : pk_zq1 N Y r h L T (w + 1) (tq_e T L p) (0, p', c)) (q2 : ¬ tq_sn T L p' 41) : pk_zq4 N Y r h L T 7 w p (1, tq_s T L p', []) := by
  intro V K W td f fu x hf hfu hlo _ hs
  have hp := hs.1.2.2.1
  have hL := hs.1.1.2.2.1
  have eg := tq_e_gt (T := T) hL hp (by have := q0.1; omega)
  obtain ⟨V8, g1, g2, g3⟩ := pr_par (N := N) (f := f) (fu := fu) (x := x) hN hS hs q0
  rw [g1]
  rcases h1 V8 K (14 :: W) td f fu (by omega) (by omega) rfl g3 with ⟨-, fu', V', k1, pe, td', a1, a2, a3, a4, a5, a6, a7, a8, a9⟩ | ⟨a, -⟩
  · rw [a1]
    have hp' : p' ≤ L := a3.1.2.2.1
    have a9' : fu + tq_e T L p ≤ fu' + p' := a9
    have b1 := pr_exS (N := N) (fu := fu' - 2) (by omega) hS a3 (by omega) a8 (fun g => absurd g q2)
    rw [show fu' - 2 + 2 = fu' by omega] at b1
    obtain ⟨V3, c1, c2, c3⟩ := pr_325N hN hS a3
    rw [b1, c1]
    exact Or.inr ⟨by show ¬ (1 : Nat) = 0; omega, V3, rfl, c2, (g2.tr a2).tr c3⟩
  · exact absurd rfl a
theorem pm_parF (hN : 2000 ≤ N) (hS : pk_Rf Y r) (q0 : tq_sn T L p 40) (h1 : pk_zq1 N Y r h L T (w + 1) (tq_e T L p) (k + 1, e, c)) : pk_zq4 N Y r h L T 7 w p (k + 1, e, c) := by
  intro V K W td f fu x hf hfu hlo _ hs
  have hp := hs.1.2.2.1
  have hL := hs.1.1.2.2.1
  have eg := tq_e_gt (T := T) hL hp (by have := q0.1; omega)
  obtain ⟨V8, g1, g2, g3⟩ := pr_par (N := N) (f := f) (fu := fu) (x := x) hN hS hs q0
  rw [g1]
  exact (h1 V8 K (14 :: W) td f fu (by omega) (by omega) rfl g3).F g2
theorem pm_deep (hN : 2000 ≤ N) (hS : pk_Rf Y r) (q0 : 6 ≤ w) : pk_zq1 N Y r h L T w p (if tq_k T L p = 2 ∨ tq_k T L p = 1 ∨ tq_sn T L p 40 then 2 else 1, tq_s T L p, []) := by
  intro V K W td f fu hf hfu hlo hs
  have hp := hs.1.2.2.1
  have hL := hs.1.1.2.2.1
  have hb := hs.2.2.1
  have hb2 := hs.2.2.2
  have d6 : w ≤ 6 := hs.2.1.2.2.2.2.2.2.1
  obtain rfl : w = 6 := by omega
  obtain ⟨V1, e1, e2, e3, e4⟩ := pr_deepN (N := N) hS hs
  rw [e1, pk_bs, pr_op4F hS e3 (by omega), pk_bs]
  exact pk_xR.ex hN hS e3 e4 (by omega) (by omega) (by omega) e2 (by split <;> omega)
theorem pm_expr (hN : 2000 ≤ N) (hS : pk_Rf Y r) (q0 : w < 6) (h1 : pk_zq3 N Y r h L T 1 w p 0 o) : pk_zq1 N Y r h L T w p o := by
  intro V K W td f fu hf hfu hlo hs
  have ⟨a1, a2, a3, a4⟩ := hs
  have hp := hs.1.2.2.1
  obtain ⟨V1, e1, e2, e3⟩ := pr_deepY (N := N) hS a2 q0
  have hs1 : pk_SR r V1 T L p h K W (w + 1) (tq_tu td (w + 1) 0) := ⟨a1.frM e2, e3, a3, a4⟩
  rw [e1, pk_bs, pr_op4 hS hs1.1 (by omega)]
  refine (h1 V1 K W (tq_tu td (w + 1) 0) (f - 1) fu N (by omega) hfu (by omega) (by omega) hlo (if_pos rfl) hs1).fr e2.toX (fun j q1 q2 => ?_) (fun g => by omega) (Nat.le_refl _)
  exact if_neg (by omega)
/-- a level: its first, then its loop -/
theorem pk_xR.lp (H : pk_xR N Y r h w L T V fu p K W td (l + 1) (0, p', c) X) (h2 : pk_zq2 N Y r h L T l w p' c o) (hlo : tq_lo l W) (hfu : L + 2 ≤ fu + p) : pk_xR N Y r h w L T V fu p K W td l o X := by
  rcases H with ⟨-, fu', V', k1, pe, td', a1, a2, a3, a4, a5, a6, a7, a8, a9⟩ | ⟨a, -⟩
  · rw [a1]
    have a9' : fu + p ≤ fu' + p' := a9
    exact (h2 V' K W td' fu' k1 pe (by omega) hlo a3 a4 (fun x hx => tq_dr_m (a5 x hx)) a8).fr a2 a6 (fun q => a7 (by omega)) a9'
  · exact absurd rfl a
theorem pk_xR.go (H : pk_xR N Y r h w L T V fu p (K ++ k1 ++ pe) (tag :: W) td (l + 1) (0, p', c2) X) (h2 : pk_zq2 N Y r h L T l w p' (c ++ c2 ++ [20000 + t]) o) (hc : k1 ++ pe = tq_rc h c) (ht : tq_dr l tag = true) (ht2 : tq_rc h [20000 + t] = [tag]) (hlo : tq_lo l W) (hfu : L + 2 ≤ fu + p) : pk_xR N Y r h w L T V fu p K W td l o X := by
  rcases H with ⟨-, fu', V', k2, pe2, td', a1, a2, a3, a4, a5, a6, a7, a8, a9⟩ | ⟨a, -⟩
  · rw [a1]
    have a9' : fu + p ≤ fu' + p' := a9
    refine (h2 V' K W td' fu' (k1 ++ pe ++ k2) (pe2 ++ [tag]) (by omega) hlo ?_ ?_ ?_ a8).fr a2 a6 (fun q => a7 (by omega)) a9'
    · rw [List.append_assoc pe2, ← List.append_assoc K, ← List.append_assoc K]
      exact a3
    · rw [tq_rc_app, tq_rc_app, ht2, ← hc, ← a4]
      simp only [List.append_assoc]
    · intro x hx
      rcases List.mem_append.mp hx with g | g
      · exact tq_dr_m (a5 x g)
      · rw [List.mem_singleton.mp g]; exact ht
  · exact absurd rfl a
theorem pm_lp3 (h1 : pk_zq3 N Y r h L T (l + 1) w p 0 (0, p', c)) (h2 : pk_zq2 N Y r h L T l w p' c o) : pk_zq3 N Y r h L T l w p 0 o := by
  intro V K W td f fu g hf hfu hg hn hlo h0 hs
  exact (h1 V K W td f fu g hf hfu hg hn (tq_lo_m hlo) h0 hs).lp h2 hlo hfu
theorem pm_lp4 (h1 : pk_zq4 N Y r h L T (l + 1) w p (0, p', c)) (h2 : pk_zq2 N Y r h L T l w p' c o) (hl : 4 < l) : pk_zq4 N Y r h L T l w p o := by
  intro V K W td f fu x hf hfu hlo h0 hs
  exact (h1 V K W td f fu x hf hfu (tq_lo_m hlo) (fun g => by omega) hs).lp h2 hlo hfu
theorem pm_lpF3 (h1 : pk_zq3 N Y r h L T (l + 1) w p 0 (k + 1, e, c)) : pk_zq3 N Y r h L T l w p 0 (k + 1, e, c) := by
  intro V K W td f fu g hf hfu hg hn hlo h0 hs
  exact (h1 V K W td f fu g hf hfu hg hn (tq_lo_m hlo) h0 hs).F pk_frX.rf
theorem pm_lpF4 (h1 : pk_zq4 N Y r h L T (l + 1) w p (k + 1, e, c)) (hl : 4 < l) : pk_zq4 N Y r h L T l w p (k + 1, e, c) := by
  intro V K W td f fu x hf hfu hlo h0 hs
  exact (h1 V K W td f fu x hf hfu (tq_lo_m hlo) (fun g => by omega) hs).F pk_frX.rf
/-- an operator of a level with words -/
theorem pr_go12 (hN : 2000 ≤ N) (hS : pk_Rf Y r) (hs : pk_SR r V T L p h (K ++ k1) (pe ++ W) (w + 1) td) (hl : l = 1 ∨ l = 2) (ho : tq_o T L l p ≠ 0) (hpe : ∀ o ∈ pe, tq_dr l o = true) (hW : tq_lo l W) (hfu : L + 2 ≤ fu + p) (h1 : pk_zq3 N Y r h L T (l + 1) w (tq_e T L p) 0 o) : ∃ V1, pk_frX r V V1 ∧ pk_xR N Y r h w L T V1 (fu - 1) (tq_e T L p) (K ++ k1 ++ pe) (sp_tag (tq_o T L l p) :: W) (tq_tu td (w + 1) 0) (l + 1) o (pk_Ex N Y r fu V) ∧ L + 2 ≤ fu - 1 + tq_e T L p ∧ fu + p ≤ fu - 1 + tq_e T L p := by
  have hp := hs.1.2.2.1
  have hL := hs.1.1.2.2.1
  have eg := tq_e_gt (T := T) hL hp (tq_o_k ho).1
  obtain ⟨V1, e1, e2, e3⟩ := pr_ex12 (N := N) (fu := fu - 1) (by omega) hS hs hl ho hpe hW
  rw [show fu - 1 + 1 = fu by omega, pr_op4 hS e3.1 (by omega)] at e1
  refine ⟨V1, e2, ?_, by omega, by omega⟩
  rw [e1]
  exact h1 V1 (K ++ k1 ++ pe) _ _ (N - 1) (fu - 1) N (by omega) (by omega) (by omega) (by omega) (tq_tag (h := h) (by rcases hl with g | g; exact Or.inl g; exact Or.inr (Or.inl g)) ho).2.1 (if_pos rfl) e3
theorem pr_go56 (hN : 2000 ≤ N) (hS : pk_Rf Y r) (hs : pk_SR r V T L p h (K ++ k1) (pe ++ W) (w + 1) td) (hl : l = 5 ∨ l = 6) (ho : tq_o T L l p ≠ 0) (hpe : ∀ o ∈ pe, tq_dr l o = true) (hW : tq_lo l W) (hfu : L + 2 ≤ fu + p) (h1 : pk_zq4 N Y r h L T (l + 1) w (tq_e T L p) o) : ∃ V1, pk_frX r V V1 ∧ pk_xR N Y r h w L T V1 (fu - 1) (tq_e T L p) (K ++ k1 ++ pe) (sp_tag (tq_o T L l p) :: W) td (l + 1) o (pk_Ex N Y r fu V) ∧ L + 2 ≤ fu - 1 + tq_e T L p ∧ fu + p ≤ fu - 1 + tq_e T L p := by
  have hp := hs.1.2.2.1
  have hL := hs.1.1.2.2.1
  have eg := tq_e_gt (T := T) hL hp (tq_o_k ho).1
  obtain ⟨V1, e1, e2, e3⟩ := pr_ex56 (N := N) (fu := fu - 1) (by omega) hS hs hl ho hpe hW
  rw [show fu - 1 + 1 = fu by omega, pr_op4 hS e3.1 (by omega), pr_18z hS e3.1 (by omega)] at e1
  refine ⟨V1, e2, ?_, by omega, by omega⟩
  rw [e1]
  exact h1 V1 (K ++ k1 ++ pe) _ _ (N - 1) (fu - 1) (nI 0) (by omega) (by omega) (tq_tag (h := h) (by rcases hl with g | g; exact Or.inr (Or.inr (Or.inl g)); exact Or.inr (Or.inr (Or.inr g))) ho).2.1 (fun g => by omega) e3
theorem pm_go12 (hN : 2000 ≤ N) (hS : pk_Rf Y r) (hl : l = 1 ∨ l = 2) (ho : tq_o T L l p ≠ 0) (h1 : pk_zq3 N Y r h L T (l + 1) w (tq_e T L p) 0 (0, p', c2)) (h2 : pk_zq2 N Y r h L T l w p' (c ++ c2 ++ [20000 + tq_o T L l p]) o) : pk_zq2 N Y r h L T l w p c o := by
  intro V K W td fu k1 pe hfu hlo hs hc hpe hsp
  obtain ⟨V1, e1, e2, e3, e4⟩ := pr_go12 hN hS hs hl ho hpe hlo hfu h1
  obtain ⟨t1, t2, t3⟩ := tq_tag (h := h) (by rcases hl with g | g; exact Or.inl g; exact Or.inr (Or.inl g)) ho
  exact (e2.go h2 hc t1 t3 hlo e3).fr e1 (fun j q1 q2 => if_neg (by omega)) (fun g => by omega) e4
theorem pm_go56 (hN : 2000 ≤ N) (hS : pk_Rf Y r) (hl : l = 5 ∨ l = 6) (ho : tq_o T L l p ≠ 0) (h1 : pk_zq4 N Y r h L T (l + 1) w (tq_e T L p) (0, p', c2)) (h2 : pk_zq2 N Y r h L T l w p' (c ++ c2 ++ [20000 + tq_o T L l p]) o) : pk_zq2 N Y r h L T l w p c o := by
  intro V K W td fu k1 pe hfu hlo hs hc hpe hsp
  obtain ⟨V1, e1, e2, e3, e4⟩ := pr_go56 hN hS hs hl ho hpe hlo hfu h1
  obtain ⟨t1, t2, t3⟩ := tq_tag (h := h) (by rcases hl with g | g; exact Or.inr (Or.inr (Or.inl g)); exact Or.inr (Or.inr (Or.inr g))) ho
  exact (e2.go h2 hc t1 t3 hlo e3).fr e1 (fun j q1 q2 => rfl) (fun g => rfl) e4
theorem pm_goF12 (hN : 2000 ≤ N) (hS : pk_Rf Y r) (hl : l = 1 ∨ l = 2) (ho : tq_o T L l p ≠ 0) (h1 : pk_zq3 N Y r h L T (l + 1) w (tq_e T L p) 0 (k + 1, e, c2)) : pk_zq2 N Y r h L T l w p c (k + 1, e, c2) := by
  intro V K W td fu k1 pe hfu hlo hs hc hpe hsp
  obtain ⟨V1, e1, e2, e3, e4⟩ := pr_go12 hN hS hs hl ho hpe hlo hfu h1
  exact e2.F e1
theorem pm_goF56 (hN : 2000 ≤ N) (hS : pk_Rf Y r) (hl : l = 5 ∨ l = 6) (ho : tq_o T L l p ≠ 0) (h1 : pk_zq4 N Y r h L T (l + 1) w (tq_e T L p) (k + 1, e, c2)) : pk_zq2 N Y r h L T l w p c (k + 1, e, c2) := by
  intro V K W td fu k1 pe hfu hlo hs hc hpe hsp
  obtain ⟨V1, e1, e2, e3, e4⟩ := pr_go56 hN hS hs hl ho hpe hlo hfu h1
  exact e2.F e1
theorem pm_en (hl : tq_lv l) (ho : tq_o T L l p = 0) : pk_zq2 N Y r h L T l w p c (0, p, c) := by
  intro V K W td fu k1 pe hfu hlo hs hc hpe hsp
  refine Or.inl ⟨rfl, fu, V, k1, pe, td, rfl, pk_frX.rf, hs, hc, hpe, fun _ _ _ => rfl, fun _ => rfl, ⟨fun l' q1 q2 => ?_, fun q => hsp.2 (by rcases hl with g | g | g | g <;> omega)⟩, Nat.le_refl _⟩
  by_cases g : l' = l
  · rw [g]; exact ho
  · exact hsp.1 l' (by omega) q2
theorem pm_not (hN : 2000 ≤ N) (hS : pk_Rf Y r) (q0 : tq_w T L p = 34) (q1 : n < 6) (h1 : pk_zq3 N Y r h L T 3 w (tq_e T L p) (n + 1) o) : pk_zq3 N Y r h L T 3 w p n o := by
  intro V K W td f fu g hf hfu hg hn hlo h0 hs
  have hp := hs.1.2.2.1
  have hL := hs.1.1.2.2.1
  have eg := tq_e_gt (T := T) hL hp (by rw [tq_w_k (by omega)]; omega)
  obtain ⟨V1, e1, e2, e3⟩ := pr_18n (N := N) (k4 := q_X12_operand_4 N Y f) (g := g) (by omega) hS hs (by omega) q1 q0
  rw [e1]
  exact (h1 V1 K W td f fu (g - 1) (by omega) (by omega) (by omega) (by omega) hlo h0 e3).fr e2 (fun _ _ _ => rfl) (fun _ => rfl) (by omega)
theorem pm_notF (hN : 2000 ≤ N) (hS : pk_Rf Y r) (q0 : tq_w T L p = 34) (q1 : n = 6) : pk_zq3 N Y r h L T 3 w p n (2, tq_s T L p, []) := by
  intro V K W td f fu g hf hfu hg hn hlo h0 hs
  have hp := hs.1.2.2.1
  have hL := hs.1.1.2.2.1
  have hb := hs.2.2.1
  have hb2 := hs.2.2.2
  subst q1
  obtain ⟨V1, e1, e2, e3, e4⟩ := pr_18x (N := N) (f := f) (g := g) (by omega) hS hs (by omega) (by omega) q0
  rw [e1, pk_bs]
  exact pk_xR.ex hN hS e3 e4 (by omega) (by omega) (by omega) e2 (by omega)
theorem tq_lo_r (h : tq_lo 3 W) : tq_lo 4 (List.replicate n 3 ++ W) := by
  cases n with
  | zero => exact tq_lo_m h
  | succ n => show tq_dr 4 3 = false; decide
theorem tq_rc_r : ∀ n, tq_rc h (List.replicate n 20003) = List.replicate n 3
  | 0 => rfl
  | n + 1 => by
    rw [List.replicate_succ, List.replicate_succ, ← tq_rc_r n]
    rfl
theorem pm_tst (hN : 2000 ≤ N) (hS : pk_Rf Y r) (q0 : tq_w T L p ≠ 34) (h1 : pk_zq4 N Y r h L T 4 w p (0, p', c)) : pk_zq3 N Y r h L T 3 w p n (0, p', c ++ List.replicate n 20003) := by
  intro V K W td f fu g hf hfu hg hn hlo h0 hs
  rw [pr_18w (by omega) hS hs.1 (by omega) q0]
  rcases h1 V K (List.replicate n 3 ++ W) td f fu (nI 1) hf hfu (tq_lo_r hlo) (fun _ => h0) hs with ⟨-, fu', V', k1, pe, td', a1, a2, a3, a4, a5, a6, a7, a8, a9⟩ | ⟨a, -⟩
  · refine Or.inl ⟨rfl, fu', V', k1, pe ++ List.replicate n 3, td', a1, a2, ?_, ?_, ?_, a6, fun g => by omega, ⟨fun l' q1 q2 => a8.1 l' (by rcases q2 with g | g | g | g <;> omega) q2, fun _ => a8.2 (by omega)⟩, a9⟩
    · rw [List.append_assoc]; exact a3
    · rw [tq_rc_app, tq_rc_r, ← a4, List.append_assoc]
    · intro x hx
      rcases List.mem_append.mp hx with g | g
      · exact tq_dr_m (a5 x g)
      · rw [List.eq_of_mem_replicate g]; decide
  · exact absurd rfl a
theorem pm_tstF (hN : 2000 ≤ N) (hS : pk_Rf Y r) (q0 : tq_w T L p ≠ 34) (h1 : pk_zq4 N Y r h L T 4 w p (k + 1, e, c)) : pk_zq3 N Y r h L T 3 w p n (k + 1, e, c) := by
  intro V K W td f fu g hf hfu hg hn hlo h0 hs
  rw [pr_18w (by omega) hS hs.1 (by omega) q0]
  exact (h1 V K (List.replicate n 3 ++ W) td f fu (nI 1) hf hfu (tq_lo_r hlo) (fun _ => h0) hs).F pk_frX.rf
theorem pm_t0 (h1 : pk_zq4 N Y r h L T 5 w p (0, p', c)) (q1 : tq_o T L 4 p' = 0) : pk_zq4 N Y r h L T 4 w p (0, p', c) := by
  intro V K W td f fu x hf hfu hlo h0 hs
  rcases h1 V K W td f fu x hf hfu (tq_lo_m hlo) (fun g => by omega) hs with ⟨-, fu', V', k1, pe, td', a1, a2, a3, a4, a5, a6, a7, a8, a9⟩ | ⟨a, -⟩
  · exact Or.inl ⟨rfl, fu', V', k1, pe, td', a1, a2, a3, a4, fun x hx => tq_dr_m (a5 x hx), a6, fun g => by omega, ⟨fun l' q1 q2 => a8.1 l' (by rcases q2 with g | g | g | g <;> omega) q2, fun _ => Or.inl q1⟩, a9⟩
  · exact absurd rfl a
theorem pm_tF (h1 : pk_zq4 N Y r h L T 5 w p (k + 1, e, c)) : pk_zq4 N Y r h L T 4 w p (k + 1, e, c) := by
  intro V K W td f fu x hf hfu hlo h0 hs
  exact (h1 V K W td f fu x hf hfu (tq_lo_m hlo) (fun g => by omega) hs).F pk_frX.rf
/-- a test's second sum -/
theorem pr_t1 (hN : 2000 ≤ N) (hS : pk_Rf Y r) (hs : pk_SR r V T L p h (K ++ k1) (pe ++ W) (w + 1) td) (ho : tq_o T L 4 p ≠ 0) (h0 : td (w + 1) = 0) (hpe : ∀ o ∈ pe, tq_dr 5 o = true) (hW : tq_lo 4 W) (hfu : L + 2 ≤ fu + p) (h1 : pk_zq4 N Y r h L T 5 w (tq_e T L p) o) : ∃ V1, pk_frX r V V1 ∧ pk_xR N Y r h w L T V1 (fu - 1) (tq_e T L p) (K ++ k1 ++ pe) (sp_tag (tq_o T L 4 p) :: W) (tq_tu td (w + 1) 1) 5 o (pk_Ex N Y r fu V) ∧ fu + p ≤ fu - 1 + tq_e T L p := by
  have hp := hs.1.2.2.1
  have hL := hs.1.1.2.2.1
  have eg := tq_e_gt (T := T) hL hp (tq_o_k ho).1
  obtain ⟨V1, e1, e2, e3⟩ := pr_ex4 (N := N) (fu := fu - 1) (by omega) hS hs (by omega) ho h0 (fun o ho => tq_dr_m (hpe o ho)) hW
  rw [show fu - 1 + 1 = fu by omega, pr_op4 hS e3.1 (by omega), pr_18z hS e3.1 (by omega)] at e1
  refine ⟨V1, e2, ?_, by omega⟩
  rw [e1]
  exact h1 V1 (K ++ k1 ++ pe) _ _ (N - 1) (fu - 1) (nI 0) (by omega) (by omega) (tq_tag4 (h := h) ho).2.1 (fun g => by omega) e3
theorem pm_t1 (hN : 2000 ≤ N) (hS : pk_Rf Y r) (h1 : pk_zq4 N Y r h L T 5 w p (0, p', c)) (ho : tq_o T L 4 p' ≠ 0) (h2 : pk_zq4 N Y r h L T 5 w (tq_e T L p') (0, p2, c2)) : pk_zq4 N Y r h L T 4 w p (0, p2, c ++ c2 ++ [20000 + tq_o T L 4 p']) := by
  intro V K W td f fu x hf hfu hlo h0 hs
  rcases h1 V K W td f fu x hf hfu (tq_lo_m hlo) (fun g => by omega) hs with ⟨-, fu', V', k1, pe, td', a1, a2, a3, a4, a5, a6, a7, a8, a9⟩ | ⟨a, -⟩
  · rw [a1]
    have a9' : fu + p ≤ fu' + p' := a9
    obtain ⟨V1, e1, e2, e3⟩ := pr_t1 (fu := fu') hN hS a3 ho ((a7 (by omega)).trans (h0 rfl)) a5 hlo (by show L + 2 ≤ fu' + p'; omega) h2
    obtain ⟨t1, t2, t3⟩ := tq_tag4 (h := h) ho
    rcases e2 with ⟨-, fu2, V2, k2, pe2, td2, b1, b2, b3, b4, b5, b6, b7, b8, b9⟩ | ⟨a, -⟩
    · rw [b1]
      have b9' : fu' - 1 + tq_e T L p' ≤ fu2 + p2 := b9
      have e3' : fu' + p' ≤ fu' - 1 + tq_e T L p' := e3
      refine Or.inl ⟨rfl, fu2, V2, k1 ++ pe ++ k2, pe2 ++ [sp_tag (tq_o T L 4 p')], td2, rfl, (a2.tr e1).tr b2, ?_, ?_, ?_, fun j q1 q2 => ?_, fun g => by omega, ⟨fun l' q1 q2 => b8.1 l' (by rcases q2 with g | g | g | g <;> omega) q2, fun _ => Or.inr ((b7 (by omega)).trans (if_pos rfl))⟩, by show fu + p ≤ fu2 + p2; omega⟩
      · rw [List.append_assoc pe2, ← List.append_assoc K, ← List.append_assoc K]
        exact b3
      · rw [tq_rc_app, tq_rc_app, t3, ← show k1 ++ pe = tq_rc h c from a4, ← show k2 ++ pe2 = tq_rc h c2 from b4]
        simp only [List.append_assoc]
      · intro x hx
        rcases List.mem_append.mp hx with g | g
        · exact tq_dr_m (b5 x g)
        · rw [List.mem_singleton.mp g]; exact t1
      · rw [b6 j q1 q2, ← a6 j q1 q2]
        exact if_neg (by omega)
    · exact absurd rfl a
  · exact absurd rfl a
theorem pm_t1F (hN : 2000 ≤ N) (hS : pk_Rf Y r) (h1 : pk_zq4 N Y r h L T 5 w p (0, p', c)) (ho : tq_o T L 4 p' ≠ 0) (h2 : pk_zq4 N Y r h L T 5 w (tq_e T L p') (k + 1, e, c2)) : pk_zq4 N Y r h L T 4 w p (k + 1, e, c2) := by
  intro V K W td f fu x hf hfu hlo h0 hs
  rcases h1 V K W td f fu x hf hfu (tq_lo_m hlo) (fun g => by omega) hs with ⟨-, fu', V', k1, pe, td', a1, a2, a3, a4, a5, a6, a7, a8, a9⟩ | ⟨a, -⟩
  · rw [a1]
    have a9' : fu + p ≤ fu' + p' := a9
    obtain ⟨V1, e1, e2, e3⟩ := pr_t1 (fu := fu') hN hS a3 ho ((a7 (by omega)).trans (h0 rfl)) a5 hlo (by show L + 2 ≤ fu' + p'; omega) h2
    exact e2.F (a2.tr e1)
  · exact absurd rfl a
end
