/-! the whole of a rule's text: the reference; and that it keeps to its pile -/
def pk_mA (N : Nat) (Y : bk_Lay) (r h L : Nat) (T : Nat → Nat) (m w p n : Nat) (c : List Nat) (o : Nat × Nat × List Nat) : Prop := (m = 1 → pk_zq1 N Y r h L T w p o) ∧ (∀ l, m = 10 + l → tq_lv l → pk_zq2 N Y r h L T l w p c o) ∧ (∀ l, (m = 21 ∧ l = 1 ∨ m = 22 ∧ l = 2 ∨ m = 3 ∧ l = 3) → pk_zq3 N Y r h L T l w p n o) ∧ (∀ l, (m = 4 ∧ l = 4 ∨ m = 25 ∧ l = 5 ∨ m = 26 ∧ l = 6 ∨ m = 7 ∧ l = 7) → pk_zq4 N Y r h L T l w p o)
def tq_of (m : Nat) : Nat := if m = 22 ∨ m = 12 then 1 else if m = 3 ∨ m = 4 then 2 else if m = 25 ∨ m = 15 then 3 else if m = 26 ∨ m = 16 then 4 else if m = 7 then 5 else 0
def tq_oM (v m w p n : Nat) (c : List Nat) (o : Nat × Nat × List Nat) (L : Nat) : Prop := p ≤ L → o.1 = 0 → (m ≠ 1 → w ≤ 5) → ∀ k, k ≤ 5 * w + tq_of m → (11 ≤ m → m ≤ 16 → ∀ re, sp_ok v re (k + 1) → sp_ok v (c ++ re) k) → ∀ re, sp_ok v re (k + 1) → sp_ok v (o.2.2 ++ re) k
section
variable {N z t u s tl r a b d k n j h m l p p' p1 p2 q q0 md wa s' i f e gg v S L g lo hi w d2 fu fu1 tag : Nat} {Y Y' : bk_Lay} {V V' V1 V2 : bk_Val} {x y x1 x2 x3 x4 x5 ee : Int32} {w1 w2 : Int64} {T T' R G In td td1 td2 : Nat → Nat} {K W K2 W2 k1 pe c c2 re : List Nat} {o : Nat × Nat × List Nat} {X : Option bk_Val}
theorem tq_lv_n (h : tq_lv l) : l = 1 ∨ l = 2 ∨ l = 5 ∨ l = 6 := h
theorem pk_mA.g1 (H : pk_zq1 N Y r h L T w p o) : pk_mA N Y r h L T 1 w p n c o := ⟨fun _ => H, fun l g _ => by omega, fun l g => by omega, fun l g => by omega⟩
theorem pk_mA.g2 (hl : tq_lv l) (H : pk_zq2 N Y r h L T l w p c o) : pk_mA N Y r h L T (10 + l) w p n c o := by
  have hl' := tq_lv_n hl
  refine ⟨fun g => by omega, fun l' g _ => ?_, fun l' g => by omega, fun l' g => by omega⟩
  obtain rfl : l' = l := by omega
  exact H
theorem pk_mA.g3 (hm : m = 21 ∧ l = 1 ∨ m = 22 ∧ l = 2 ∨ m = 3 ∧ l = 3) (H : pk_zq3 N Y r h L T l w p n o) : pk_mA N Y r h L T m w p n c o := by
  refine ⟨fun g => by omega, fun l' g h' => ?_, fun l' g => ?_, fun l' g => by omega⟩
  · have := tq_lv_n h'
    omega
  · obtain rfl : l' = l := by omega
    exact H
theorem pk_mA.g4 (hm : m = 4 ∧ l = 4 ∨ m = 25 ∧ l = 5 ∨ m = 26 ∧ l = 6 ∨ m = 7 ∧ l = 7) (H : pk_zq4 N Y r h L T l w p o) : pk_mA N Y r h L T m w p n c o := by
  refine ⟨fun g => by omega, fun l' g h' => ?_, fun l' g => by omega, fun l' g => ?_⟩
  · have := tq_lv_n h'
    omega
  · obtain rfl : l' = l := by omega
    exact H
theorem pm_all (hN : 2000 ≤ N) (hS : pk_Rf Y r) (hh : h < 2) (H : tq_R T L h m w p n c o) : pk_mA N Y r h L T m w p n c o := by
  refine H (pk_mA N Y r h L T) ⟨?_, ?_, ?_, ?_, ?_, ?_, ?_, ?_, ?_, ?_, ?_, ?_, ?_, ?_, ?_, ?_, ?_, ?_, ?_, ?_, ?_, ?_, ?_⟩
  · intro w p q1 q2
    exact pk_mA.g4 (l := 7) (by omega) (pm_num hN hS q1 q2)
  · intro w p q1 q2
    exact pk_mA.g4 (l := 7) (by omega) (pm_bad hN hS hh (fun g => by have := g.1; omega) (Or.inl ⟨rfl, q1, q2⟩))
  · intro w p q1 q2
    exact pk_mA.g4 (l := 7) (by omega) (pm_val hN hS hh q1 q2)
  · intro w p q1 q2
    exact pk_mA.g4 (l := 7) (by omega) (pm_bad hN hS hh (fun g => by have := g.1; omega) (Or.inr (Or.inl ⟨rfl, q1, q2⟩)))
  · intro w p q1 q2 q3
    exact pk_mA.g4 (l := 7) (by omega) (pm_bad hN hS hh q3 (Or.inr (Or.inr ⟨rfl, q1, q2⟩)))
  · intro w p p' c q1 ih q3
    exact pk_mA.g4 (l := 7) (by omega) (pm_par hN hS q1 (ih.1 rfl) q3)
  · intro w p p' c q1 ih q3
    exact pk_mA.g4 (l := 7) (by omega) (pm_parN hN hS q1 (ih.1 rfl) q3)
  · intro w p k e c q1 ih
    exact pk_mA.g4 (l := 7) (by omega) (pm_parF hN hS q1 (ih.1 rfl))
  · intro w p q1
    exact pk_mA.g1 (pm_deep hN hS q1)
  · intro w p o q1 ih
    exact pk_mA.g1 (pm_expr hN hS q1 (ih.2.2.1 1 (by omega)))
  · intro l w p p' c o q1 ih1 ih2
    rcases q1 with g | g | g | g <;> subst g
    · exact pk_mA.g3 (l := 1) (by omega) (pm_lp3 (ih1.2.2.1 2 (Or.inr (Or.inl ⟨rfl, rfl⟩))) (ih2.2.1 1 rfl (Or.inl rfl)))
    · exact pk_mA.g3 (l := 2) (by omega) (pm_lp3 (ih1.2.2.1 3 (Or.inr (Or.inr ⟨rfl, rfl⟩))) (ih2.2.1 2 rfl (Or.inr (Or.inl rfl))))
    · exact pk_mA.g4 (l := 5) (by omega) (pm_lp4 (ih1.2.2.2 6 (Or.inr (Or.inr (Or.inl ⟨rfl, rfl⟩)))) (ih2.2.1 5 rfl (Or.inr (Or.inr (Or.inl rfl)))) (by omega))
    · exact pk_mA.g4 (l := 6) (by omega) (pm_lp4 (ih1.2.2.2 7 (Or.inr (Or.inr (Or.inr ⟨rfl, rfl⟩)))) (ih2.2.1 6 rfl (Or.inr (Or.inr (Or.inr rfl)))) (by omega))
  · intro l w p k e c q1 ih1
    rcases q1 with g | g | g | g <;> subst g
    · exact pk_mA.g3 (l := 1) (by omega) (pm_lpF3 (ih1.2.2.1 2 (Or.inr (Or.inl ⟨rfl, rfl⟩))))
    · exact pk_mA.g3 (l := 2) (by omega) (pm_lpF3 (ih1.2.2.1 3 (Or.inr (Or.inr ⟨rfl, rfl⟩))))
    · exact pk_mA.g4 (l := 5) (by omega) (pm_lpF4 (ih1.2.2.2 6 (Or.inr (Or.inr (Or.inl ⟨rfl, rfl⟩)))) (by omega))
    · exact pk_mA.g4 (l := 6) (by omega) (pm_lpF4 (ih1.2.2.2 7 (Or.inr (Or.inr (Or.inr ⟨rfl, rfl⟩)))) (by omega))
  · intro l w p p' c c2 o q1 q2 ih1 ih2
    rcases q1 with g | g | g | g <;> subst g
    · exact pk_mA.g2 (l := 1) (Or.inl rfl) (pm_go12 hN hS (Or.inl rfl) q2 (ih1.2.2.1 2 (Or.inr (Or.inl ⟨rfl, rfl⟩))) (ih2.2.1 1 rfl (Or.inl rfl)))
    · exact pk_mA.g2 (l := 2) (Or.inr (Or.inl rfl)) (pm_go12 hN hS (Or.inr rfl) q2 (ih1.2.2.1 3 (Or.inr (Or.inr ⟨rfl, rfl⟩))) (ih2.2.1 2 rfl (Or.inr (Or.inl rfl))))
    · exact pk_mA.g2 (l := 5) (Or.inr (Or.inr (Or.inl rfl))) (pm_go56 hN hS (Or.inl rfl) q2 (ih1.2.2.2 6 (Or.inr (Or.inr (Or.inl ⟨rfl, rfl⟩)))) (ih2.2.1 5 rfl (Or.inr (Or.inr (Or.inl rfl)))))
    · exact pk_mA.g2 (l := 6) (Or.inr (Or.inr (Or.inr rfl))) (pm_go56 hN hS (Or.inr rfl) q2 (ih1.2.2.2 7 (Or.inr (Or.inr (Or.inr ⟨rfl, rfl⟩)))) (ih2.2.1 6 rfl (Or.inr (Or.inr (Or.inr rfl)))))
  · intro l w p k e c c2 q1 q2 ih1
    rcases q1 with g | g | g | g <;> subst g
    · exact pk_mA.g2 (l := 1) (Or.inl rfl) (pm_goF12 hN hS (Or.inl rfl) q2 (ih1.2.2.1 2 (Or.inr (Or.inl ⟨rfl, rfl⟩))))
    · exact pk_mA.g2 (l := 2) (Or.inr (Or.inl rfl)) (pm_goF12 hN hS (Or.inr rfl) q2 (ih1.2.2.1 3 (Or.inr (Or.inr ⟨rfl, rfl⟩))))
    · exact pk_mA.g2 (l := 5) (Or.inr (Or.inr (Or.inl rfl))) (pm_goF56 hN hS (Or.inl rfl) q2 (ih1.2.2.2 6 (Or.inr (Or.inr (Or.inl ⟨rfl, rfl⟩)))))
    · exact pk_mA.g2 (l := 6) (Or.inr (Or.inr (Or.inr rfl))) (pm_goF56 hN hS (Or.inr rfl) q2 (ih1.2.2.2 7 (Or.inr (Or.inr (Or.inr ⟨rfl, rfl⟩)))))
  · intro l w p c q1 q2
    exact pk_mA.g2 q1 (pm_en q1 q2)
  · intro w p n o q1 q2 ih
    exact pk_mA.g3 (l := 3) (by omega) (pm_not hN hS q1 q2 (ih.2.2.1 3 (by omega)))
  · intro w p n q1 q2
    exact pk_mA.g3 (l := 3) (by omega) (pm_notF hN hS q1 q2)
  · intro w p n p' c q1 q2 ih
    exact pk_mA.g3 (l := 3) (by omega) (pm_tst hN hS q1 (ih.2.2.2 4 (by omega)))
  · intro w p n k e c q1 q2 ih
    exact pk_mA.g3 (l := 3) (by omega) (pm_tstF hN hS q1 (ih.2.2.2 4 (by omega)))
  · intro w p p' c ih q2
    exact pk_mA.g4 (l := 4) (by omega) (pm_t0 (ih.2.2.2 5 (by omega)) q2)
  · intro w p k e c ih
    exact pk_mA.g4 (l := 4) (by omega) (pm_tF (ih.2.2.2 5 (by omega)))
  · intro w p p' p2 c c2 ih1 q2 ih2
    exact pk_mA.g4 (l := 4) (by omega) (pm_t1 hN hS (ih1.2.2.2 5 (by omega)) q2 (ih2.2.2.2 5 (by omega)))
  · intro w p p' k e c c2 ih1 q2 ih2
    exact pk_mA.g4 (l := 4) (by omega) (pm_t1F hN hS (ih1.2.2.2 5 (by omega)) q2 (ih2.2.2.2 5 (by omega)))
theorem pr_325Y (hN : 2000 ≤ N) (hS : pk_Rf Y r) (hs : pk_SR r V T L p gg K W 1 td) : ∃ V', q_X12_expression_325 N Y V r = some V' ∧ pk_frM r V V' ∧ pk_SX r V' gg (K ++ W.takeWhile (tq_dr 0) ++ [0]) (W.dropWhile (tq_dr 0)) 1 td := by
  have ⟨a1, a2, a3, a4⟩ := hs
  have hp := hs.1.2.2.1
  have hL := hs.1.1.2.2.1
  have e48 : bk_rI V r 48 = nI 1 := a2.2.2.2.2.2.1
  obtain ⟨V2, b1, b2, b3⟩ := pr_345 hN hS a2 (by omega) (by omega)
  refine ⟨V2, ?_, b2, b3⟩
  unfold q_X12_expression_325
  rw [pk_ck hS.1, pr_goodY hS a1.2.2.2, pk_bs, if_neg pk_n10, e48, if_pos (show nI 1 ≤ (1 : Int32) by decide), b1]
/-- a whole rule, the reference -/
theorem pr_expr (hN : 2000 ≤ N) (hS : pk_Rf Y r) (hh : h < 2) (H : tq_R T L h 1 0 p 0 [] o) (h1 : pk_PR r V T L p) (hK : bk_rI V r 46 = nI K.length) (hK2 : ∀ i, i < K.length → bk_rI V (r + 12) i = nI (K.getD i 0)) (hl : K.length ≤ 2 * p) (h50 : bk_rI V r 50 = nI h) :
    (o.1 = 0 ∧ ∃ V', q_X12_expression N Y V r = some V' ∧ pk_frX r V V' ∧ pk_PR r V' T L o.2.1 ∧ bk_rI V' r 46 = nI (K ++ tq_rc h o.2.2 ++ [0]).length ∧ (∀ i, i < (K ++ tq_rc h o.2.2 ++ [0]).length → bk_rI V' (r + 12) i = nI ((K ++ tq_rc h o.2.2 ++ [0]).getD i 0)) ∧ (K ++ tq_rc h o.2.2 ++ [0]).length ≤ 2 * o.2.1 + 1) ∨
    (o.1 ≠ 0 ∧ ∃ V', q_X12_expression N Y V r = some V' ∧ pk_frX r V V' ∧ pk_FR r V' o.1 o.2.1) := by
  have hp := h1.2.2.1
  have hL := h1.1.2.2.1
  have f0 : pk_frM r V (bk_wI (bk_wI V r 47 (nI 0)) r 48 (nI 0)) := (pk_frM.ws (by omega)).tr (pk_frM.ws (by omega))
  have x0 : pk_SX r (bk_wI (bk_wI V r 47 (nI 0)) r 48 (nI 0)) h K [] 0 (fun _ => 0) := by
    refine ⟨?_, fun i hi => ?_, ?_, trivial, fun o ho => absurd ho List.not_mem_nil, ?_, by omega, fun j q1 q2 => by omega, ?_⟩
    · rw [pk_rI_same, if_neg (by omega), pk_rI_same, if_neg (by omega)]; exact hK
    · rw [pk_rI_ne (by omega), pk_rI_ne (by omega)]; exact hK2 i hi
    · rw [pk_rI_same, if_neg (by omega), pk_rI_same, if_pos rfl]; rfl
    · rw [pk_rI_same, if_pos rfl]
    · rw [pk_rI_same, if_neg (by omega), pk_rI_same, if_neg (by omega)]; exact h50
  have s0 : pk_SR r (bk_wI (bk_wI V r 47 (nI 0)) r 48 (nI 0)) T L p h K [] 0 (fun _ => 0) := ⟨h1.frM f0, x0, by rw [List.length_nil]; omega, by rw [List.length_nil]; omega⟩
  have e0 : q_X12_expression N Y V r = (q_X12_deeper N Y (bk_wI (bk_wI V r 47 (nI 0)) r 48 (nI 0)) r).bind fun V1 => (q_X12_operand_4 N Y N V1 r (nI 1) (nI 1)).bind (pk_Ex N Y r N) := by
    unfold q_X12_expression
    rw [pk_ck hS.1, pr_goodY hS h1.2.2.2, pk_bs, if_neg pk_n10, pk_letE, pk_letE]
    rfl
  rw [e0]
  rcases (pm_all hN hS hh H).1 rfl _ K [] (fun _ => 0) N N (by omega) (by omega) trivial s0 with ⟨a, fu', V', k1, pe, td', a1, a2, a3, a4, a5, a6, a7, a8, a9⟩ | ⟨a, V', a1, a2, a3⟩
  · have hp' : o.2.1 ≤ L := a3.1.2.2.1
    have b1 := pr_exS (N := N) (fu := fu' - 2) (by omega) hS a3 (by omega) a8 (fun _ => by
      rw [List.append_nil, List.any_eq_false]
      intro x hx
      have := (tq_dr_lt (a5 x hx)).1
      rw [decide_eq_true_eq]
      omega)
    rw [show fu' - 2 + 2 = fu' by omega] at b1
    obtain ⟨V3, c1, c2, c3⟩ := pr_325Y hN hS a3
    have tw := tq_tw (lo := 0) (W := []) pe (fun o ho => tq_dr_0 (a5 o ho)) trivial
    rw [tw.1, List.append_assoc K, a4] at c3
    refine Or.inl ⟨a, V3, by rw [a1, b1, c1], (f0.toX.tr a2).tr c2.toX, a3.1.frM c2, c3.1, c3.2.1, ?_⟩
    have l1 := a3.2.2.1
    rw [← a4]
    simp only [List.length_append, List.length_nil, List.length_cons] at l1 ⊢
    omega
  · exact Or.inr ⟨a, V', a1, f0.toX.tr a3, a2⟩
/-! the pile -/
theorem sp_ok_n : ∀ n, sp_ok v re (k + 1) → sp_ok v (List.replicate n 20003 ++ re) (k + 1)
  | 0, h => h
  | n + 1, h => by
    rw [List.replicate_succ, List.cons_append, sp_ok, if_neg (by omega), if_pos rfl]
    exact ⟨by omega, by omega, by omega, sp_ok_n n h⟩
theorem sp_ok_b (ht : t < 10 ∧ 0 < t ∧ t ≠ 3) (h : sp_ok v re (k + 1)) : sp_ok v ([20000 + t] ++ re) (k + 2) := by
  show sp_ok v ((20000 + t) :: re) (k + 2)
  rw [sp_ok, if_neg (by omega), if_neg (by omega)]
  exact ⟨by omega, by omega, by omega, h⟩
theorem tq_R_ok (hL : L ≤ 700) (hh : h < 2) (H : tq_R T L h m w p n c o) : tq_oM (5 + h) m w p n c o L := by
  have nof : ∀ {P : Prop} {k : Nat}, k + 1 = 0 → P := fun g => absurd g (by omega)
  have HP := H (fun m w p n c o => tq_oM (5 + h) m w p n c o L ∧ (p ≤ L → o.1 = 0 → o.2.1 ≤ L)) ⟨?_, ?_, ?_, ?_, ?_, ?_, ?_, ?_, ?_, ?_, ?_, ?_, ?_, ?_, ?_, ?_, ?_, ?_, ?_, ?_, ?_, ?_, ?_⟩
  · exact HP.1
  · intro w p q1 q2
    refine ⟨fun hp _ hw k hk _ re hr => ?_, fun hp _ => tq_e_le hL hp⟩
    have := hw (by omega)
    have k7 : k ≤ 5 * w + 5 := hk
    have tv := tq_v_lt (T := T) hL hp
    show sp_ok _ (tq_v T L p :: re) k
    rw [sp_ok, if_pos (by omega)]
    exact ⟨by omega, fun g => by omega, hr⟩
  · intro w p q1 q2
    exact ⟨fun hp g => absurd g (by show ¬ (2 : Nat) = 0; omega), fun hp g => absurd g (by show ¬ (2 : Nat) = 0; omega)⟩
  · intro w p q1 q2
    refine ⟨fun hp _ hw k hk _ re hr => ?_, fun hp _ => tq_e_le hL hp⟩
    have := hw (by omega)
    have k7 : k ≤ 5 * w + 5 := hk
    have wb := tq_w_b (T := T) (L := L) (p := p)
    have tv := (tq_vm0 h hh (tq_w T L p) (by omega) q2).2.1
    show sp_ok _ ((10000 + tq_vl h (tq_w T L p)) :: re) k
    rw [sp_ok, if_pos (by omega)]
    exact ⟨by omega, fun g => by omega, hr⟩
  · intro w p q1 q2
    exact ⟨fun hp g => absurd g (by show ¬ (3 : Nat) = 0; omega), fun hp g => absurd g (by show ¬ (3 : Nat) = 0; omega)⟩
  · intro w p q1 q2 q3
    exact ⟨fun hp g => absurd g (by show ¬ (1 : Nat) = 0; omega), fun hp g => absurd g (by show ¬ (1 : Nat) = 0; omega)⟩
  · intro w p p' c q1 ih q3
    refine ⟨fun hp _ hw k hk _ re hr => ?_, fun hp _ => tq_e_le hL (ih.2 (tq_e_le hL hp) rfl)⟩
    have k7 : k ≤ 5 * w + 5 := hk
    exact ih.1 (tq_e_le hL hp) rfl (fun g => absurd rfl g) k (by show k ≤ 5 * (w + 1) + 0; omega) (fun g => by omega) re hr
  · intro w p p' c q1 ih q3
    exact ⟨fun hp g => absurd g (by show ¬ (1 : Nat) = 0; omega), fun hp g => absurd g (by show ¬ (1 : Nat) = 0; omega)⟩
  · intro w p k e c q1 ih
    exact ⟨fun hp g => nof g, fun hp g => nof g⟩
  · intro w p q1
    have : ¬ (if tq_k T L p = 2 ∨ tq_k T L p = 1 ∨ tq_sn T L p 40 then 2 else 1) = 0 := by split <;> omega
    exact ⟨fun hp g => absurd g this, fun hp g => absurd g this⟩
  · intro w p o q1 ih
    refine ⟨fun hp h0 hw k hk _ re hr => ?_, ih.2⟩
    exact ih.1 hp h0 (fun _ => by omega) k hk (fun g => by omega) re hr
  · intro l w p p' c o q1 ih1 ih2
    refine ⟨fun hp h0 hw k hk _ re hr => ?_, fun hp h0 => ih2.2 (ih1.2 hp rfl) h0⟩
    have hlv := tq_lv_n q1
    have w5 := hw (by omega)
    have b1 : tq_of (10 + l) = tq_of (20 + l) ∧ tq_of (tq_nx l) = tq_of (20 + l) + 1 := by
      rcases hlv with g | g | g | g <;> subst g <;> decide
    have b2 : ¬ (11 ≤ tq_nx l ∧ tq_nx l ≤ 16) := by
      rcases hlv with g | g | g | g <;> subst g <;> decide
    exact ih2.1 (ih1.2 hp rfl) h0 (fun _ => w5) k (by omega) (fun _ _ re hr => ih1.1 hp rfl (fun _ => w5) k (by omega) (fun g1 g2 => absurd ⟨g1, g2⟩ b2) re hr) re hr
  · intro l w p k e c q1 ih1
    exact ⟨fun hp g => nof g, fun hp g => nof g⟩
  · intro l w p p' c c2 o q1 q2 ih1 ih2
    refine ⟨fun hp h0 hw k hk hc re hr => ?_, fun hp h0 => ih2.2 (ih1.2 (tq_e_le hL hp) rfl) h0⟩
    have hlv := tq_lv_n q1
    have w5 := hw (by omega)
    have b1 : tq_of (10 + l) = tq_of (20 + l) ∧ tq_of (tq_nx l) = tq_of (20 + l) + 1 := by
      rcases hlv with g | g | g | g <;> subst g <;> decide
    have b2 : ¬ (11 ≤ tq_nx l ∧ tq_nx l ≤ 16) := by
      rcases hlv with g | g | g | g <;> subst g <;> decide
    obtain ⟨-, o1, o2, o3⟩ := tq_o_k q2
    refine ih2.1 (ih1.2 (tq_e_le hL hp) rfl) h0 (fun _ => w5) k hk (fun _ _ re hr => ?_) re hr
    rw [List.append_assoc, List.append_assoc]
    refine hc (by omega) (by omega) _ ?_
    exact ih1.1 (tq_e_le hL hp) rfl (fun _ => w5) (k + 1) (by omega) (fun g1 g2 => absurd ⟨g1, g2⟩ b2) _ (sp_ok_b ⟨o1, o2, o3⟩ hr)
  · intro l w p k e c c2 q1 q2 ih1
    exact ⟨fun hp g => nof g, fun hp g => nof g⟩
  · intro l w p c q1 q2
    have hlv := tq_lv_n q1
    exact ⟨fun hp h0 hw k hk hc re hr => hc (by omega) (by omega) re hr, fun hp _ => hp⟩
  · intro w p n o q1 q2 ih
    exact ⟨fun hp h0 hw k hk hc re hr => ih.1 (tq_e_le hL hp) h0 hw k hk (fun g => by omega) re hr, fun hp h0 => ih.2 (tq_e_le hL hp) h0⟩
  · intro w p n q1 q2
    exact ⟨fun hp g => absurd g (by show ¬ (2 : Nat) = 0; omega), fun hp g => absurd g (by show ¬ (2 : Nat) = 0; omega)⟩
  · intro w p n p' c q1 q2 ih
    refine ⟨fun hp h0 hw k hk hc re hr => ?_, fun hp h0 => ih.2 hp rfl⟩
    show sp_ok _ (c ++ List.replicate n 20003 ++ re) k
    rw [List.append_assoc]
    exact ih.1 hp rfl (fun _ => hw (by omega)) k hk (fun g => by omega) _ (sp_ok_n n hr)
  · intro w p n k e c q1 q2 ih
    exact ⟨fun hp g => nof g, fun hp g => nof g⟩
  · intro w p p' c ih q2
    refine ⟨fun hp h0 hw k hk hc re hr => ?_, ih.2⟩
    have k4 : k ≤ 5 * w + 2 := hk
    exact ih.1 hp rfl (fun _ => hw (by omega)) k (by show k ≤ 5 * w + 3; omega) (fun g g2 => by omega) re hr
  · intro w p k e c ih
    exact ⟨fun hp g => nof g, fun hp g => nof g⟩
  · intro w p p' p2 c c2 ih1 q2 ih2
    refine ⟨fun hp h0 hw k hk hc re hr => ?_, fun hp h0 => ih2.2 (tq_e_le hL (ih1.2 hp rfl)) rfl⟩
    have k4 : k ≤ 5 * w + 2 := hk
    obtain ⟨-, o1, o2, o3⟩ := tq_o_k q2
    show sp_ok _ (c ++ c2 ++ [20000 + tq_o T L 4 p'] ++ re) k
    rw [List.append_assoc, List.append_assoc]
    refine ih1.1 hp rfl (fun _ => hw (by omega)) k (by show k ≤ 5 * w + 3; omega) (fun g g2 => by omega) _ ?_
    exact ih2.1 (tq_e_le hL (ih1.2 hp rfl)) rfl (fun _ => hw (by omega)) (k + 1) (by show k + 1 ≤ 5 * w + 3; omega) (fun g g2 => by omega) _ (sp_ok_b ⟨o1, o2, o3⟩ hr)
  · intro w p p' k e c c2 ih1 q2 ih2
    exact ⟨fun hp g => nof g, fun hp g => nof g⟩
/-- a rule's text that was read is a rule -/
theorem tq_R_rule (hL : L ≤ 700) (hh : h < 2) (hp : p ≤ L) (H : tq_R T L h 1 0 p 0 [] (0, p', c)) : sp_ok (5 + h) c 0 ∧ c ≠ [] ∧ c.length ≤ 700 ∧ p ≤ p' ∧ p' ≤ L := by
  have h1 := tq_R_ok hL hh H hp rfl (fun g => absurd rfl g) 0 (by omega) (fun g => by omega) [] (show (0 : Nat) + 1 = 1 from rfl)
  rw [show ((0, p', c) : Nat × Nat × List Nat).2.2 ++ [] = c from List.append_nil c] at h1
  have h2 := tq_R_p hL H hp rfl
  simp only [List.length_nil] at h2
  refine ⟨h1, fun g => ?_, by omega, h2.1, h2.2.1⟩
  rw [g] at h1
  have : (0 : Nat) = 1 := h1
  omega
/-- what the reference holds of it is the rule's code -/
theorem pk_RC.cons {y1 y2 : Nat} (H : ∀ i, i < ([y1, y2] ++ c ++ [0]).length → bk_rI V b (k + i) = nI (([y1, y2] ++ c ++ [0]).getD i 0)) : bk_rI V b k = nI y1 ∧ bk_rI V b (k + 1) = nI y2 ∧ (∀ i, i < (c ++ [0]).length → bk_rI V b (k + 2 + i) = nI ((c ++ [0]).getD i 0)) ∧ ([y1, y2] ++ c ++ [0]).length = (c ++ [0]).length + 2 :=
  ⟨H 0 (Nat.zero_lt_succ _), H 1 (Nat.succ_lt_succ (Nat.zero_lt_succ _)), fun i hi => by rw [show k + 2 + i = k + (i + 2) by omega]; exact H (i + 2) (Nat.succ_lt_succ (Nat.succ_lt_succ hi)), rfl⟩
theorem pk_RC.con1 {y1 : Nat} (H : ∀ i, i < ([y1] ++ c ++ [0]).length → bk_rI V b (k + i) = nI (([y1] ++ c ++ [0]).getD i 0)) : bk_rI V b k = nI y1 ∧ (∀ i, i < (c ++ [0]).length → bk_rI V b (k + 1 + i) = nI ((c ++ [0]).getD i 0)) ∧ ([y1] ++ c ++ [0]).length = (c ++ [0]).length + 1 :=
  ⟨H 0 (Nat.zero_lt_succ _), fun i hi => by rw [show k + 1 + i = k + (i + 1) by omega]; exact H (i + 1) (Nat.succ_lt_succ hi), rfl⟩
theorem pk_RC.mk (c : List Nat) : ∀ (k : Nat), (∀ i, i < (tq_rc h c ++ [0]).length → bk_rI V b (k + i) = nI ((tq_rc h c ++ [0]).getD i 0)) → k + (tq_rc h c ++ [0]).length ≤ 1900 → pk_RC V b h c k := by
  induction c with
  | nil =>
    intro k H hk
    exact ⟨hk, H 0 (Nat.zero_lt_succ _)⟩
  | cons x c ih =>
    intro k H hk
    have e : tq_rc h (x :: c) = (if x < 10000 then [1, x] else if x < 20000 then [2, sp_vm h (x - 10000)] else [sp_tag (x - 20000)]) ++ tq_rc h c := rfl
    rw [e] at H hk
    unfold pk_RC
    by_cases q1 : x < 10000
    · rw [if_pos q1] at H hk ⊢
      obtain ⟨a1, a2, a3, a4⟩ := pk_RC.cons H
      rw [a4] at hk
      exact ⟨by omega, a1, a2, ih (k + 2) a3 (by omega)⟩
    rw [if_neg q1] at H hk ⊢
    by_cases q2 : x < 20000
    · rw [if_pos q2] at H hk ⊢
      obtain ⟨a1, a2, a3, a4⟩ := pk_RC.cons H
      rw [a4] at hk
      exact ⟨by omega, a1, a2, ih (k + 2) a3 (by omega)⟩
    · rw [if_neg q2] at H hk ⊢
      obtain ⟨a1, a3, a4⟩ := pk_RC.con1 H
      rw [a4] at hk
      exact ⟨by omega, a1, ih (k + 1) a3 (by omega)⟩
end
