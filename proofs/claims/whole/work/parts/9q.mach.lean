/-! the reference's machine: parts, brackets, acts that wait -/
def tq_rc (h : Nat) : List Nat → List Nat
  | [] => []
  | o :: l => (if o < 10000 then [1, o] else if o < 20000 then [2, sp_vm h (o - 10000)] else [sp_tag (o - 20000)]) ++ tq_rc h l
def pk_Ex (N : Nat) (Y : bk_Lay) (r fu : Nat) (V : bk_Val) : Option bk_Val := q_X12_expression_29 N Y fu V r (nI 1)
section
variable {N z t u s tl r a b d k n j h m l p q q0 md wa s' i f e gg v S L g lo hi w o d2 fu : Nat} {Y Y' : bk_Lay} {V V' V2 : bk_Val} {x y x1 x2 x3 x4 x5 ee : Int32} {w1 w2 : Int64} {T T' R G In td td2 : Nat → Nat} {K W K2 W2 k1 pe c c2 : List Nat} {k4 : bk_Val → Nat → Int32 → Int32 → Option bk_Val} {k29 : bk_Val → Nat → Int32 → Option bk_Val}
theorem tq_rc_app : ∀ c c2, tq_rc h (c ++ c2) = tq_rc h c ++ tq_rc h c2
  | [], c2 => rfl
  | o :: c, c2 => by
    show _ ++ tq_rc h (c ++ c2) = (_ ++ tq_rc h c) ++ tq_rc h c2
    rw [tq_rc_app c c2, List.append_assoc]
theorem pr_isV0 : ∀ w, w < 36 → (if tq_wI w = 0 then some (1 : Int32) else if tq_wI w = 1 then some 1 else if tq_wI w < 2 then some 0 else if 4 < tq_wI w then some 0 else some 1) = some (pk_B (tq_vl 0 w < 9)) := by decide +kernel
theorem pr_isV1 : ∀ w, w < 36 → (if tq_wI w = 0 then some (1 : Int32) else if tq_wI w = 1 then some 1 else if tq_wI w < 5 then some 0 else if 8 < tq_wI w then some 0 else some 1) = some (pk_B (tq_vl 1 w < 9)) := by decide +kernel
theorem tq_vm0 : ∀ h, h < 2 → ∀ w, w < 36 → tq_vl h w < 9 → sp_vm h (tq_vl h w) = w ∧ tq_vl h w < 5 + h ∧ w < 35 := by decide +kernel
theorem pr_isV (hS : pk_Rf Y r) (h50 : bk_rI V r 50 = nI gg) (hh : gg < 2) (hk : k ≤ 35) : q_X12_isValue N Y V r (tq_wI k) = some (pk_B (tq_vl gg k < 9)) := by
  unfold q_X12_isValue
  rcases (show gg = 0 ∨ gg = 1 by omega) with q | q
  · subst q
    rw [pk_ck hS.1, h50, if_pos (show nI 0 = (0 : Int32) from rfl)]
    exact pr_isV0 k (by omega)
  · subst q
    rw [pk_ck hS.1, h50, if_neg (show ¬ nI 1 = (0 : Int32) by decide)]
    exact pr_isV1 k (by omega)
theorem pk_n10 : ¬ nI 1 = (0 : Int32) := by decide
theorem pr_89 (hN : 1000 ≤ N) (hS : pk_Rf Y r) (h : pk_SR r V T L p gg K W d td) (hk : K2.length ≤ K.length + 2) (hf : pk_frM r V V') (hx : pk_SX r V' gg K2 W d td) (ht : tq_k T L p ≠ 0) : ∃ V2, q_X12_part_89 N Y V' r = some V2 ∧ pk_frX r V V2 ∧ pk_SR r V2 T L (tq_e T L p) gg K2 W d td := by
  obtain ⟨V2, e1, e2, e3⟩ := pr_goS (N := N) hN hS h (K2 := K2) (W2 := W) (by omega) (by omega) hf hx ht
  refine ⟨V2, ?_, e2, e3⟩
  unfold q_X12_part_89
  rw [pk_ck hS.1, pr_goodY hS (h.1.frM hf).2.2.2, pk_bs, if_neg pk_n10, e1, pk_bs]
theorem pr_partN (hN : 1000 ≤ N) (hS : pk_Rf Y r) (hs : pk_SR r V T L p gg K W d td) (hk2 : tq_k T L p = 2) (hl : tq_e T L p - tq_s T L p ≤ 4) : ∃ V', q_X12_part N Y V r = some V' ∧ pk_frX r V V' ∧ pk_SR r V' T L (tq_e T L p) gg (K ++ [1, tq_v T L p]) W d td := by
  have ⟨a1, a2, a3, a4⟩ := hs
  have hp := a1.2.2.1
  have hL := a1.1.2.2.1
  obtain ⟨V1, b1, b2, b3⟩ := pr_puts (N := N) (v := 1) hS a2 (by omega)
  have p1 := a1.frM b2
  obtain ⟨V2, c1, c2, c3⟩ := pr_puts (N := N) (v := tq_v T L p) hS b3 (by rw [List.length_append]; show K.length + 1 < 1900; omega)
  rw [List.append_assoc] at c3
  obtain ⟨V3, g1, g2, g3⟩ := pr_89 (N := N) hN hS hs (by rw [List.length_append]; exact Nat.le_refl _) (b2.tr c2) c3 (by omega)
  have e29 : bk_rI V1 r 29 = nI (tq_v T L p) := p1.2.1.2.2.2.2.1
  have e26 : bk_rI V r 26 = nI (tq_k T L p) := a1.2.1.2.1
  have e28 : bk_rI V r 28 = nI (tq_e T L p - tq_s T L p) := a1.2.1.2.2.2.1
  refine ⟨V3, ?_, g2, g3⟩
  unfold q_X12_part
  rw [pk_ck hS.1, pr_goodY hS a1.2.2.2, pk_bs, if_neg pk_n10, e26, hk2, if_pos (show nI 2 = (2 : Int32) from rfl), e28, if_pos (show nI (tq_e T L p - tq_s T L p) ≤ (4 : Int32) from (show nI (tq_e T L p - tq_s T L p) ≤ nI 4 by rw [nI_leI (by omega) (by omega)]; omega))]
  unfold q_X12_part_29
  rw [pk_ck hS.1, show q_X12_puts N Y V r 1 = some V1 from b1, pk_bs, e29, c1, pk_bs, g1]
theorem pr_partV (hN : 1000 ≤ N) (hS : pk_Rf Y r) (hh : gg < 2) (hs : pk_SR r V T L p gg K W d td) (hk2 : tq_k T L p = 1) (hl : tq_vl gg (tq_w T L p) < 9) : ∃ V', q_X12_part N Y V r = some V' ∧ pk_frX r V V' ∧ pk_SR r V' T L (tq_e T L p) gg (K ++ [2, sp_vm gg (tq_vl gg (tq_w T L p))]) W d td := by
  have ⟨a1, a2, a3, a4⟩ := hs
  have hp := a1.2.2.1
  have hL := a1.1.2.2.1
  have wb := tq_w_b (T := T) (L := L) (p := p)
  obtain ⟨m1, m2, m3⟩ := tq_vm0 gg hh (tq_w T L p) (by omega) hl
  rw [m1]
  obtain ⟨V1, b1, b2, b3⟩ := pr_puts (N := N) (v := 2) hS a2 (by omega)
  have p1 := a1.frM b2
  obtain ⟨V2, c1, c2, c3⟩ := pr_puts (N := N) (v := tq_w T L p) hS b3 (by rw [List.length_append]; show K.length + 1 < 1900; omega)
  rw [List.append_assoc] at c3
  obtain ⟨V3, g1, g2, g3⟩ := pr_89 (N := N) hN hS hs (by rw [List.length_append]; exact Nat.le_refl _) (b2.tr c2) c3 (by omega)
  have e26 : bk_rI V r 26 = nI (tq_k T L p) := a1.2.1.2.1
  refine ⟨V3, ?_, g2, g3⟩
  have ew : tq_wI (tq_w T L p) = nI (tq_w T L p) := if_pos m3
  have ev := pr_isV (N := N) (V := V) (k := tq_w T L p) hS a2.2.2.2.2.2.2.2.2 hh wb
  unfold q_X12_part
  rw [pk_ck hS.1, pr_goodY hS a1.2.2.2, pk_bs, if_neg pk_n10, e26, hk2, if_neg (show ¬ nI 1 = (2 : Int32) by decide), if_pos (show nI 1 = (1 : Int32) from rfl), pr_known hN hS hL hp a1.2.1, pk_bs, ev, pk_bs, pk_Bt hl, if_neg pk_n10, ew]
  unfold q_X12_part_71
  rw [pk_ck hS.1, show q_X12_puts N Y V r 2 = some V1 from b1, pk_bs, c1, pk_bs, g1]
theorem pr_partG (hS : pk_Rf Y r) (hf : pk_FR r V k e) : q_X12_part N Y V r = some V := by
  unfold q_X12_part
  rw [pk_ck hS.1, pr_goodN hS hf, pk_bs, if_pos (show nI 0 = (0 : Int32) from rfl)]
theorem pr_89F (hS : pk_Rf Y r) (hf : pk_FR r V k e) : q_X12_part_89 N Y V r = some V := by
  unfold q_X12_part_89
  rw [pk_ck hS.1, pr_goodN hS hf, pk_bs, if_pos (show nI 0 = (0 : Int32) from rfl)]
theorem pr_2F (hS : pk_Rf Y r) (hf : pk_FR r V k e) (hx : pk_SX r V gg K W d td) (hb : K.length ≤ 1800) (F : bk_Val → Int32) (hF : ∀ V8, pk_frM r V V8 → F V8 = nI b) : ∃ V', (q_X12_puts N Y V r (nI a)).bind (fun V8 => (q_X12_puts N Y V8 r (F V8)).bind fun V11 => q_X12_part_89 N Y V11 r) = some V' ∧ pk_FR r V' k e ∧ pk_frM r V V' ∧ pk_SX r V' gg (K ++ [a] ++ [b]) W d td := by
  obtain ⟨V1, b1, b2, b3⟩ := pr_puts (N := N) (v := a) hS hx (by omega)
  obtain ⟨V2, c1, c2, c3⟩ := pr_puts (N := N) (v := b) hS b3 (by rw [List.length_append]; show K.length + 1 < 1900; omega)
  have f2 := hf.frM (b2.tr c2)
  refine ⟨V2, ?_, f2, b2.tr c2, c3⟩
  rw [b1, pk_bs, hF V1 b2, c1, pk_bs, pr_89F hS f2]
/-- what a part that is none does -/
theorem pr_partF (hN : 1000 ≤ N) (hS : pk_Rf Y r) (hh : gg < 2) (hs : pk_SR r V T L p gg K W d td) (ho : (k = 2 ∧ tq_k T L p = 2 ∧ 4 < tq_e T L p - tq_s T L p) ∨ (k = 3 ∧ tq_k T L p = 1 ∧ tq_vl gg (tq_w T L p) = 9) ∨ (k = 1 ∧ tq_k T L p ≠ 2 ∧ tq_k T L p ≠ 1)) : ∃ V' K2, q_X12_part N Y V r = some V' ∧ pk_frX r V V' ∧ pk_FR r V' k (tq_s T L p) ∧ pk_SX r V' gg K2 W d td ∧ K2.length ≤ K.length + 2 := by
  have ⟨a1, a2, a3, a4⟩ := hs
  have hp := a1.2.2.1
  have hL := a1.1.2.2.1
  have kb := tq_k_b (T := T) (L := L) (p := p)
  have wb := tq_w_b (T := T) (L := L) (p := p)
  have ep := tq_e_le (T := T) hL hp
  have e26 : bk_rI V r 26 = nI (tq_k T L p) := a1.2.1.2.1
  have e28 : bk_rI V r 28 = nI (tq_e T L p - tq_s T L p) := a1.2.1.2.2.2.1
  obtain ⟨V1, w1, w2, w3, w4, w5⟩ := pr_wrongY (N := N) (k := k) hS a1 (by omega)
  have x1 := a2.frU w2
  rcases ho with ⟨q, q1, q2⟩ | ⟨q, q1, q2⟩ | ⟨q, q1, q2⟩
  · subst q
    obtain ⟨V2, b1, b2, b3, b4⟩ := pr_2F (N := N) (a := 1) (b := tq_v T L p) hS w3 x1 (by omega) (fun V8 => bk_rI V8 r 29) (fun V8 f8 => (f8.2.1 29 (by omega)).trans w4.2.2.2.2.1)
    refine ⟨V2, _, ?_, w2.toX.tr b3.toX, b2, b4, by rw [List.length_append, List.length_append]; exact Nat.le_refl _⟩
    unfold q_X12_part
    rw [pk_ck hS.1, pr_goodY hS a1.2.2.2, pk_bs, if_neg pk_n10, e26, q1, if_pos (show nI 2 = (2 : Int32) from rfl), e28, if_neg (show ¬ nI (tq_e T L p - tq_s T L p) ≤ (4 : Int32) from (show ¬ nI (tq_e T L p - tq_s T L p) ≤ nI 4 by rw [nI_leI (by omega) (by omega)]; omega)), show q_X12_wrong N Y V r 2 = some V1 from w1, pk_bs]
    unfold q_X12_part_29
    rw [pk_ck hS.1]
    exact b1
  · subst q
    have ev := pr_isV (N := N) (V := V) (k := tq_w T L p) hS a2.2.2.2.2.2.2.2.2 hh wb
    have ew : tq_wI (tq_w T L p) = nI (if tq_w T L p < 35 then tq_w T L p else 4294967295) := by
      unfold tq_wI
      split
      · rfl
      · decide
    obtain ⟨V2, b1, b2, b3, b4⟩ := pr_2F (N := N) (a := 2) hS w3 x1 (by omega) (fun V8 => tq_wI (tq_w T L p)) (fun V8 f8 => ew)
    refine ⟨V2, _, ?_, w2.toX.tr b3.toX, b2, b4, by rw [List.length_append, List.length_append]; exact Nat.le_refl _⟩
    unfold q_X12_part
    rw [pk_ck hS.1, pr_goodY hS a1.2.2.2, pk_bs, if_neg pk_n10, e26, q1, if_neg (show ¬ nI 1 = (2 : Int32) by decide), if_pos (show nI 1 = (1 : Int32) from rfl), pr_known hN hS hL hp a1.2.1, pk_bs, ev, pk_bs, pk_Bf (by omega), if_pos (show nI 0 = (0 : Int32) from rfl), show q_X12_wrong N Y V r 3 = some V1 from w1, pk_bs]
    unfold q_X12_part_71
    rw [pk_ck hS.1]
    exact b1
  · subst q
    refine ⟨V1, K, ?_, w2.toX, w3, x1, by omega⟩
    unfold q_X12_part
    rw [pk_ck hS.1, pr_goodY hS a1.2.2.2, pk_bs, if_neg pk_n10, e26, if_neg (show ¬ nI (tq_k T L p) = (2 : Int32) from (show ¬ nI (tq_k T L p) = nI 2 by rw [nI_eq (by omega) (by omega)]; exact q1)), if_neg (show ¬ nI (tq_k T L p) = (1 : Int32) from (show ¬ nI (tq_k T L p) = nI 1 by rw [nI_eq (by omega) (by omega)]; exact q2)), show q_X12_wrong N Y V r 1 = some V1 from w1, pk_bs, pr_89F hS w3]
theorem pr_120 (hS : pk_Rf Y r) : q_X12_operand_120 N Y V r = q_X12_part N Y V r := by
  unfold q_X12_operand_120
  rw [pk_ck hS.1]
  cases q_X12_part N Y V r <;> rfl
theorem pr_op4z (hS : pk_Rf Y r) (hf : 0 < f) : q_X12_operand_4 N Y f V r x (nI 0) = q_X12_part N Y V r := by
  rw [show f = f - 1 + 1 by omega, q_X12_operand_4, if_pos (show nI 0 = (0 : Int32) from rfl), pr_120 hS]
theorem pr_op4F (hS : pk_Rf Y r) (hf : pk_FR r V k e) (h0 : 0 < f) : q_X12_operand_4 N Y f V r x (nI 1) = some V := by
  rw [show f = f - 1 + 1 by omega, q_X12_operand_4, if_neg pk_n10, pk_ck hS.1, pr_goodN hS hf, pk_bs, if_pos (show nI 0 = (0 : Int32) from rfl), pr_120 hS, pr_partG hS hf]
theorem pr_op4 (hS : pk_Rf Y r) (h : pk_PR r V T L p) (h0 : 0 < f) : q_X12_operand_4 N Y f V r x (nI 1) = q_X12_operand_18 N Y (q_X12_operand_4 N Y (f - 1)) N V r x (nI 0) := by
  rw [show f = f - 1 + 1 by omega, q_X12_operand_4, if_neg pk_n10, pk_ck hS.1, pr_goodY hS h.2.2.2, pk_bs, if_neg pk_n10, Nat.add_sub_cancel]
  rfl
theorem pr_sn (hS : pk_Rf Y r) (h : pk_PR r V T L p) (hc : g < 128) : q_X12_isSign N Y V r (nI g) = some (pk_B (tq_sn T L p g)) := pr_isSign hS h.1.2.2.1 h.2.2.1 h.1.2.1 h.2.1 hc
theorem pr_75N (hS : pk_Rf Y r) (h : pk_PR r V T L p) (h4 : ¬ tq_sn T L p 40) : q_X12_operand_75 N Y k4 V r x = k4 V r x (nI 0) := by
  unfold q_X12_operand_75
  rw [pk_ck hS.1, pr_goodY hS h.2.2.2, pk_bs, if_neg pk_n10, show q_X12_isSign N Y V r 40 = _ from pr_sn (g := 40) hS h (by omega), pk_bs, pk_Bf h4, if_pos (show nI 0 = (0 : Int32) from rfl)]
  unfold q_X12_operand_95 q_X12_operand_96 q_X12_operand_117
  rw [if_pos (show (0 : Int32) = 0 from rfl)]
  rfl
theorem pr_75F (hS : pk_Rf Y r) (hf : pk_FR r V k e) : q_X12_operand_75 N Y k4 V r x = k4 V r x (nI 0) := by
  unfold q_X12_operand_75
  rw [pk_ck hS.1, pr_goodN hS hf, pk_bs, if_pos (show nI 0 = (0 : Int32) from rfl)]
  unfold q_X12_operand_95 q_X12_operand_96 q_X12_operand_117
  rw [if_pos (show (0 : Int32) = 0 from rfl)]
  rfl
theorem pr_75P (hS : pk_Rf Y r) (h : pk_PR r V T L p) (h4 : tq_sn T L p 40) : q_X12_operand_75 N Y k4 V r x = (q_X12_waitsFor N Y V r (nI 14)).bind fun V5 => (q_X12_goes N Y V5 r).bind fun V8 => (q_X12_deeper N Y V8 r).bind fun V10 => k4 V10 r (nI 1) (nI 1) := by
  unfold q_X12_operand_75
  rw [pk_ck hS.1, pr_goodY hS h.2.2.2, pk_bs, if_neg pk_n10, show q_X12_isSign N Y V r 40 = _ from pr_sn (g := 40) hS h (by omega), pk_bs, pk_Bt h4, if_neg pk_n10]
  unfold q_X12_operand_96 q_X12_operand_117
  rw [if_neg (show ¬ (1 : Int32) = 0 by decide), pk_ck hS.1]
  rfl
theorem pr_18z (hS : pk_Rf Y r) (h : pk_PR r V T L p) (h0 : 0 < g) : q_X12_operand_18 N Y k4 g V r (nI 0) x = q_X12_operand_75 N Y k4 V r (nI 0) := by
  rw [show g = g - 1 + 1 by omega, q_X12_operand_18, pk_ck hS.1, pr_goodY hS h.2.2.2, pk_bs, if_neg pk_n10, if_pos (show nI 0 = (0 : Int32) from rfl)]
theorem pr_18F (hS : pk_Rf Y r) (h : pk_FR r V k e) (h0 : 0 < g) : q_X12_operand_18 N Y k4 g V r y x = q_X12_operand_75 N Y k4 V r y := by
  rw [show g = g - 1 + 1 by omega, q_X12_operand_18, pk_ck hS.1, pr_goodN hS h, pk_bs, if_pos (show nI 0 = (0 : Int32) from rfl)]
theorem pr_18w (hN : 1000 ≤ N) (hS : pk_Rf Y r) (h : pk_PR r V T L p) (h0 : 0 < g) (hw : tq_w T L p ≠ 34) : q_X12_operand_18 N Y k4 g V r (nI 1) x = q_X12_operand_75 N Y k4 V r (nI 1) := by
  have wb := tq_w_b (T := T) (L := L) (p := p)
  rw [show g = g - 1 + 1 by omega, q_X12_operand_18, pk_ck hS.1, pr_goodY hS h.2.2.2, pk_bs, if_neg pk_n10, if_neg pk_n10, pr_known hN hS h.1.2.2.1 h.2.2.1 h.2.1, pk_bs, if_neg (show ¬ tq_wI (tq_w T L p) = (34 : Int32) from (show ¬ tq_wI (tq_w T L p) = nI 34 by rw [tq_wI_eq (by omega) (by omega)]; exact hw))]
theorem pr_18n (hN : 1000 ≤ N) (hS : pk_Rf Y r) (hs : pk_SR r V T L p gg K W d td) (h0 : 0 < g) (hn : n < 6) (hw : tq_w T L p = 34) : ∃ V', q_X12_operand_18 N Y k4 g V r (nI 1) (nI n) = q_X12_operand_18 N Y k4 (g - 1) V' r (nI 1) (nI (n + 1)) ∧ pk_frX r V V' ∧ pk_SR r V' T L (tq_e T L p) gg K (3 :: W) d td := by
  have ⟨a1, a2, a3, a4⟩ := hs
  have hp := a1.2.2.1
  have hL := a1.1.2.2.1
  have wb := tq_w_b (T := T) (L := L) (p := p)
  have kk := tq_w_k (T := T) (L := L) (p := p) (by omega)
  obtain ⟨V1, b1, b2, b3⟩ := pr_waits (N := N) (v := 3) hS a2 (by omega) (by omega)
  obtain ⟨V2, g1, g2, g3⟩ := pr_goS (N := N) hN hS hs (K2 := K) (W2 := 3 :: W) (by rw [List.length_cons]; omega) (by rw [List.length_cons]; omega) b2 b3 (by omega)
  refine ⟨V2, ?_, g2, g3⟩
  obtain ⟨g', rfl⟩ : ∃ g', g = g' + 1 := ⟨g - 1, by omega⟩
  rw [q_X12_operand_18, pk_ck hS.1, pr_goodY hS a1.2.2.2, pk_bs, if_neg pk_n10, if_neg pk_n10, pr_known hN hS hL hp a1.2.1, pk_bs, if_pos (show tq_wI (tq_w T L p) = (34 : Int32) from (show tq_wI (tq_w T L p) = nI 34 by rw [tq_wI_eq (by omega) (by omega)]; exact hw)), if_neg (show ¬ nI n = (6 : Int32) from (show ¬ nI n = nI 6 by rw [nI_eq (by omega) (by omega)]; omega))]
  unfold q_X12_operand_50
  rw [pk_ck hS.1, pr_goodY hS a1.2.2.2, pk_bs, if_neg pk_n10, show q_X12_waitsFor N Y V r 3 = some V1 from b1, pk_bs, g1, pk_bs, Nat.add_sub_cancel, show nI n + (1 : Int32) = nI (n + 1) from nI_add n 1]
theorem pr_18x (hN : 1000 ≤ N) (hS : pk_Rf Y r) (hs : pk_SR r V T L p gg K W d td) (h0 : 1 < g) (h1 : 0 < f) (hw : tq_w T L p = 34) : ∃ V', q_X12_operand_18 N Y (q_X12_operand_4 N Y f) g V r (nI 1) (nI 6) = some V' ∧ pk_frX r V V' ∧ pk_FR r V' 2 (tq_s T L p) ∧ pk_SX r V' gg K W d td := by
  have ⟨a1, a2, a3, a4⟩ := hs
  have hp := a1.2.2.1
  have hL := a1.1.2.2.1
  have wb := tq_w_b (T := T) (L := L) (p := p)
  obtain ⟨V1, w1, w2, w3, w4, w5⟩ := pr_wrongY (N := N) (k := 2) hS a1 (by omega)
  refine ⟨V1, ?_, w2.toX, w3, a2.frU w2⟩
  obtain ⟨g', rfl⟩ : ∃ g', g = g' + 1 := ⟨g - 1, by omega⟩
  rw [q_X12_operand_18, pk_ck hS.1, pr_goodY hS a1.2.2.2, pk_bs, if_neg pk_n10, if_neg pk_n10, pr_known hN hS hL hp a1.2.1, pk_bs, if_pos (show tq_wI (tq_w T L p) = (34 : Int32) from (show tq_wI (tq_w T L p) = nI 34 by rw [tq_wI_eq (by omega) (by omega)]; exact hw)), if_pos (show nI 6 = (6 : Int32) from rfl), show q_X12_wrong N Y V r 2 = some V1 from w1, pk_bs]
  unfold q_X12_operand_50
  rw [pk_ck hS.1, pr_goodN hS w3, pk_bs, if_pos (show nI 0 = (0 : Int32) from rfl), pr_18F hS w3 (by omega), pr_75F hS w3, pr_op4z hS h1, pr_partG hS w3]
end
