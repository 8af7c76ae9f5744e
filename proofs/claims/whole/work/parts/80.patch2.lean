/-! patch -/
section
variable {N z t u s tl r a b c d k n j h m l p q0 md wa s' i : Nat} {Y Y' : bk_Lay} {V V' V2 W : bk_Val} {x y x1 x2 x3 x4 x5 : Int32} {w1 w2 : Int64} {D : Nat → Nat → Nat} {P : Nat → List Nat} {T T' w : Nat → Nat} {st st' g : pk_St} {hs hs' : List pk_St} {img img' : Option (pk_St × List pk_St)} {pl : Option (Nat → Nat)} {fp r0 r1 : Int32} {A B : pk_A}
/-- a call that may throw, answers, and changes what counts -/
theorem pk_stC {α β : Type} {g : α → Int64 × bk_Lay × bk_Val} {cd : Nat → Int32} {o : α} {qR : bk_Lay → bk_Val → Option (β × bk_Val)} {cv : β → Int64} {v : β} (hC : pk_CA z Y V A) (hR : pk_RA (z + 58) V A) (hB : pk_BA A) (h1 : pk_CA z (g o).2.1 (g o).2.2 B ∧ pk_offR z V (g o).2.2) (hB2 : pk_BA B) (h2 : (g o).1 = cv v)
    (h3 : ∀ Y1 V1, pk_Rf Y1 (z + 58) → pk_RA (z + 58) V1 A → ∃ V2, qR Y1 V1 = some (v, V2) ∧ pk_out0 (z + 58) V1 V2 ∧ pk_RA (z + 58) V2 B) :
    (∀ o', (.inr o : Nat ⊕ α) = .inr o' → bk_sh (g o').2.1 (z + 86) = (3, 1)) ∧ ∀ k Y1 V1, bk_hr Y V (z + 86) cd (bk_on g (.inr o)) k Y1 V1 → bk_sh Y1 (z + 58) = (1, 11) ∧ ∃ r2 V2, qR Y1 V1 = some (r2, V2) ∧ bk_sh Y1 (z + 58) = (1, 11) ∧ q_X12_thrown N Y1 V2 (z + 58) = some k ∧ bk_sh Y1 (z + 86) = (3, 1) ∧ (k = 0 → bk_rL V2 (z + 86) 0 = cv r2) ∧ pk_IA z Y1 V2 := by
  refine pk_stp hC hR hB (fun e' he => by cases he) (fun o' he => ?_)
  cases he
  refine ⟨B, h1.1, h1.2, hB2, fun Y1 V1 q1 q2 => ?_⟩
  obtain ⟨V2, q3, q4, q5⟩ := h3 Y1 V1 q1 q2
  exact ⟨v, V2, q3, ⟨q4.1, q4.2, q5⟩, h2⟩
def sp_md (md h : Nat) (c : Bool) : Nat := if c then md ||| 2 ^ h else sp_set (fun k => decide (sp_bit md k ∧ ¬ sp_bit (2 ^ h) k)) 6
theorem sp_md_lt {c : Bool} (hm : md < 64) (hh : h < 6) : sp_md md h c < 64 := by
  have h2 : 2 ^ h < 2 ^ 6 := Nat.pow_lt_pow_right (by decide) hh
  unfold sp_md
  split
  · exact Nat.or_lt_two_pow (n := 6) hm h2
  · exact sp_set_lt 6
theorem pk_mdT (hh : h < 6) : nI md ||| bk_shl (nI 1) (nI h) = nI (sp_md md h true) := by
  rw [pk_shl1 (by omega), pk_or]
  rfl
theorem pk_mdF (hm : md < 64) (hh : h < 6) : nI md &&& (bk_shl (nI 1) (nI h) ^^^ -nI 1) = nI (sp_md md h false) := by
  have h2 : 2 ^ h < 2 ^ 6 := Nat.pow_lt_pow_right (by decide) hh
  rw [pk_shl1 (by omega), pk_andn _ hm _ (by omega)]
  rfl
theorem pc_patch {bb : Bool} {gx : Int32} (hgx : gx = sp_gr x) (hbb : bb = decide (sp_dr gx < sp_hold D P h m c d)) (hN : 20000 ≤ N) (hJ : pk_JC z Y V t u s D P T tl st hs img pl fp r0 r1) (hB : pk_JB D P T tl st hs img) (hh : h < D 2 0) (hm : m ≤ 60) : ∃ Y' V', q_X11_patch_35 N Y V z (nI h) (nI m) (nI c) (nI d) x (nI 1) = some (.inr (pk_B (bb = true), Y', V')) ∧ pk_CA z Y' V' (D, P, T, tl, (st.1, st.2.1, sp_md st.2.2.1 h bb, st.2.2.2), (st :: hs).take 40, img, pl, fp, r0, r1) ∧ pk_offR z V V' := by
  obtain ⟨hM, hS, hz, hT, hs5, -⟩ := hJ.o
  have b1 : D 2 0 ≤ 6 := hB.1.2.2.2.2.2.2.2.2.2.1
  have b3 : st.2.2.1 < 64 := hB.2.2.1.1.2.1
  obtain ⟨V1, e1, f1⟩ := pc_holdsBy (N := N) (m := m) (c := c) (d := d) (by omega) hS hT hB.1 hh hm
  have hJ1 := hJ.fr f1
  obtain ⟨-, -, -, -, hs6, -⟩ := hJ1.o
  obtain ⟨wa, w1, w2, w3, w4⟩ := hJ1.ww
  obtain ⟨Y', V', k1, k2, k3, k4, -⟩ := pc_keepAct (N := N) (p := st.1) (m := st.2.1) (md := sp_md st.2.2.1 h bb) (w := st.2.2.2) hJ1.j0 hB.2.2.1.2.2 w2 w3 w4
  have hl := sp_hold_le (D := D) (P := P) (h := h) (m := m) (c := c) (d := d)
  have hd := sp_dr_lt (x := gx)
  refine ⟨Y', V', ?_, ⟨t, u, bk_sz Y, k2.jc (k3 _ hJ1.2.2.2.2.2.2.2.2.2.2)⟩, (hJ.frO f1).tr k4⟩
  have e9 : q_X11_needArgument N Y V (nI 1) = some (.inr ()) := by
    rw [show nI 1 = pk_B True from rfl, pc_needA, if_pos trivial]
  have e8 : q_X11_grownSeed N Y V x = some gx := by rw [hgx]; rfl
  rw [q_X11_patch_35, e9, pk_bdxR, e8, pk_bs, pc_draw, pk_bs]
  simp (disch := omega) only [hM, hz, hS, pk_ckT, pk_bs, pk_letE, pk_bd2E, pk_bd3E, if_true, if_false, eq_self, not_true_eq_false, not_false_eq_true, true_and, and_true, Nat.not_lt_zero, Nat.zero_le, Nat.reduceEqDiff, Nat.reduceLT, Nat.reduceLeDiff, pk_ck, e1, nI_leI]
  by_cases q : sp_hold D P h m c d ≤ sp_dr gx
  · have eb : bb = false := by rw [hbb]; exact decide_eq_false (by omega)
    rw [eb] at k1
    rw [if_pos q, eb, pk_Bf (by decide), q_X11_patch_66]
    simp (disch := omega) only [hM, hz, hs6, pk_ckT, pk_bs, pk_letE, pk_bd2E, pk_bd3E, if_true, if_false, eq_self, not_true_eq_false, not_false_eq_true, true_and, and_true, Nat.not_lt_zero, Nat.zero_le, Nat.reduceEqDiff, Nat.reduceLT, Nat.reduceLeDiff, pk_ck, pk_lit]
    rw [pk_mdF b3 (by omega), q_X11_patch_118]
    simp only [hM, hz, hs6, pk_ckT, pk_bs, pk_letE, pk_bd2E, pk_bd3E, if_true, if_false, eq_self, not_true_eq_false, not_false_eq_true, true_and, and_true, Nat.not_lt_zero, Nat.zero_le, Nat.reduceEqDiff, Nat.reduceLT, Nat.reduceLeDiff, pk_ck, w1, k1, pk_lit, true_or, or_true]
  · have eb : bb = true := by rw [hbb]; exact decide_eq_true (by omega)
    rw [eb] at k1
    rw [if_neg q, eb, pk_Bt (by decide), q_X11_patch_66]
    simp (disch := omega) only [hM, hz, hs6, pk_ckT, pk_bs, pk_letE, pk_bd2E, pk_bd3E, if_true, if_false, eq_self, not_true_eq_false, not_false_eq_true, true_and, and_true, Nat.not_lt_zero, Nat.zero_le, Nat.reduceEqDiff, Nat.reduceLT, Nat.reduceLeDiff, pk_ck, pk_lit, nI_eq]
    rw [pk_mdT (by omega), q_X11_patch_118]
    simp only [hM, hz, hs6, pk_ckT, pk_bs, pk_letE, pk_bd2E, pk_bd3E, if_true, if_false, eq_self, not_true_eq_false, not_false_eq_true, true_and, and_true, Nat.not_lt_zero, Nat.zero_le, Nat.reduceEqDiff, Nat.reduceLT, Nat.reduceLeDiff, pk_ck, w1, k1, pk_lit, true_or, or_true]
theorem pr_patch {bb : Bool} {gx : Int32} (hgx : gx = sp_gr x) (hbb : bb = decide (sp_dr gx < sp_hold D P h m c d)) (hN : 20000 ≤ N) (hS : pk_Rf Y r) (hR : pk_JR r V D P T tl st hs img pl fp r0 r1) (hB : pk_JB D P T tl st hs img) (hh : h < D 2 0) (hm : m ≤ 60) (hc : c ≤ 100) (hd : d ≤ 100) : ∃ V', q_X12_patch N Y V r (nI h) (nI m) (nI c) (nI d) x = some (pk_B (bb = true), V') ∧ pk_out0 r V V' ∧ pk_JR r V' D P T tl (st.1, st.2.1, sp_md st.2.2.1 h bb, st.2.2.2) ((st :: hs).take 40) img pl fp r0 r1 := by
  have b1 : D 2 0 ≤ 6 := hB.1.2.2.2.2.2.2.2.2.2.1
  have b3 : st.2.2.1 < 64 := hB.2.2.1.1.2.1
  have h3 := hR.w0 (x := nI 0)
  obtain ⟨V1, k1, k2, k3⟩ := pr_keepsJ hN hS h3 hB.2.2.1.2.2
  have q : pk_wn (nI m) 60 ∧ pk_wn (nI c) 100 ∧ pk_wn (nI d) 100 := ⟨⟨nI_le (by omega) (by omega), nI_le (by omega) (by omega)⟩, ⟨nI_le (by omega) (by omega), nI_le (by omega) (by omega)⟩, ⟨nI_le (by omega) (by omega), nI_le (by omega) (by omega)⟩⟩
  have w71 : ∀ (W : bk_Val) (v : Int32), pk_frR r W (bk_wI W r 71 v) := fun W v => ⟨fun a q1 _ _ _ => pk_rowI q1, fun k q1 _ _ _ => pk_slot q1, fun a _ _ _ => rfl⟩
  let V2 : bk_Val := bk_wI V1 r 71 x
  let V3 : bk_Val := bk_wI V2 r 71 gx
  have f3 : pk_frR r V1 V3 := (w71 V1 x).tr (w71 V2 gx)
  have k4 := k2.frr f3
  obtain ⟨V4, e4, f4⟩ := pr_holdsOf (N := N) (m := m) (c := c) (d := d) (by omega) hS k4.1 hB.1 hh hm
  have k5 := k4.frr f4
  have hl := sp_hold_le (D := D) (P := P) (h := h) (m := m) (c := c) (d := d)
  have hdr := sp_dr_lt (x := gx)
  have ed : q_X12_draw N Y V2 r (nI 100) = some (nI (sp_dr gx), V3) := by
    rw [pr_draw hS]
    have : bk_rI V2 r 71 = x := by show bk_rI (bk_wI V1 r 71 x) r 71 = x; rw [pk_rI_same, if_pos rfl]
    rw [this, ← hgx]
  have h60 : bk_rI V4 r 60 = nI st.2.2.1 := k5.2.2.1.2.2.1
  have base : q_X12_patch N Y V r (nI h) (nI m) (nI c) (nI d) x = if sp_hold D P h m c d ≤ sp_dr gx then q_X12_patch_63 N Y V4 r (nI h) (nI 0) else q_X12_patch_63 N Y V4 r (nI h) (nI 1) := by
    simp only [q_X12_patch, hS, pk_ckT, eq_self, pk_letE, pk_lit]
    rw [pr_isHoleY hS pk_w0 (pr_h9 h3) b1 hh, pk_bd2E, if_neg (by decide), pr_isPatch, pk_bs, pr_right hS pk_w0 (Or.inr rfl), pk_bd2E, if_pos q, pk_Bt q, if_neg (by decide), k1, pk_bs]
    show bk_bd2 (q_X12_draw N Y V2 r (nI 100)) _ = _
    rw [ed, pk_bd2E, e4, pk_bd2E]
    simp (disch := omega) only [nI_leI]
  have fin : ∀ b : Bool, pk_out0 r V (bk_wI V4 r 60 (nI (sp_md st.2.2.1 h b))) ∧ pk_JR r (bk_wI V4 r 60 (nI (sp_md st.2.2.1 h b))) D P T tl (st.1, st.2.1, sp_md st.2.2.1 h b, st.2.2.2) ((st :: hs).take 40) img pl fp r0 r1 := fun b => by
    refine ⟨(((pk_out0.w0.frK k3).fr f3).fr f4).wS (k := 60) (by decide), ?_⟩
    refine k5.sta (fun a q1 q2 q3 q4 q5 => pk_rowI (by omega)) (fun k q0 q1 q2 q3 q4 q5 q6 q7 => pk_slot q3) (fun a q1 q2 q3 q4 q5 q6 => rfl) ⟨?_, ?_, ?_, k5.2.2.1.2.2.2⟩
    · rw [pk_rI_same, if_neg (by omega)]; exact k5.2.2.1.1
    · rw [pk_rI_same, if_neg (by omega)]; exact k5.2.2.1.2.1
    · rw [pk_rI_same, if_pos rfl]
  rw [base]
  by_cases q : sp_hold D P h m c d ≤ sp_dr gx
  · have eb : bb = false := by rw [hbb]; exact decide_eq_false (by omega)
    rw [if_pos q, eb]
    refine ⟨_, ?_, fin false⟩
    rw [q_X12_patch_63, if_pos (show nI 0 = 0 from rfl), pk_ck hS.1, h60]
    simp only [pk_lit]
    rw [pk_mdF b3 (by omega), q_X12_patch_92, pk_ck hS.1, pk_letE, pk_ck (show nI 0 = 0 ∨ nI 0 = 1 from Or.inl rfl), pk_Bf (by decide)]
  · have eb : bb = true := by rw [hbb]; exact decide_eq_true (by omega)
    rw [if_neg q, eb]
    refine ⟨_, ?_, fin true⟩
    rw [q_X12_patch_63, if_neg (by decide), pk_ck hS.1, h60]
    simp only [pk_lit]
    rw [pk_mdT (by omega), q_X12_patch_92, pk_ck hS.1, pk_letE, pk_ck (show nI 1 = 0 ∨ nI 1 = 1 from Or.inr rfl), pk_Bt (by decide)]
theorem st_22 (hN : 20000 ≤ N) (hI : pk_IA z Y V) : bk_st22 N z (z + 58) (z + 86) Y V x1 x2 x3 x4 x5 (pk_IA z) := by
  obtain ⟨t, u, s, D, P, T, tl, st, hs, img, pl, fp, r0, r1, hJ, hR, hB, hC, hRA, hBA⟩ := hI.e
  obtain ⟨hM, hS, hz, hT, hs5, -⟩ := hJ.o
  have b1 : D 2 0 ≤ 6 := hB.1.2.2.2.2.2.2.2.2.2.1
  rcases pk_ix2 x1 (n := D 2 0) (by omega) with hx | ⟨h, hh, rfl⟩
  · refine ⟨.inl 1, ?_, (fun e he => by cases he; exact Or.inl rfl), pk_stT hC hRA hBA rfl (k := 1) (by decide) (v := nI 0) (fun Y1 V1 h1 h2 => ⟨_, ?_, pk_frR.rf⟩)⟩
    · rw [q_X11_patch, pk_ck hM.1, pc_needHoleN hS hM hz.1 hT hB.1 hx, pk_bdxL]
    · simp only [q_X12_patch, h1, pk_ckT, eq_self, pk_letE, pk_lit]
      rw [pr_isHoleN h1 pk_w0 (pr_h9 (pk_JR.w0 h2)) b1 hx, pk_bd2E, if_pos rfl]
  · have eC : q_X11_patch N Y V z (nI h) x2 x3 x4 x5 = q_X11_patch_35 N Y V z (nI h) x2 x3 x4 x5 (pk_B (pk_wn x2 60 ∧ pk_wn x3 100 ∧ pk_wn x4 100)) := by
      rw [q_X11_patch, pk_ck hM.1, pc_needHoleY hS hM hz.1 hT hB.1 hh, pk_bdxR]
      simp only [pc_isWithin, pc_hundred, pk_bs, pk_lit, pk_B0, q_X11_patch_34]
      exact pk_3if (f := q_X11_patch_35 N Y V z (nI h) x2 x3 x4 x5)
    by_cases c : pk_wn x2 60 ∧ pk_wn x3 100 ∧ pk_wn x4 100
    · rw [pk_Bt c] at eC
      obtain ⟨m, hm, rfl⟩ := pk_wnx c.1 (by decide)
      obtain ⟨c', hc', rfl⟩ := pk_wnx c.2.1 (by decide)
      obtain ⟨d, hd, rfl⟩ := pk_wnx c.2.2 (by decide)
      obtain ⟨gx, hgx⟩ : ∃ gx, gx = sp_gr x5 := ⟨_, rfl⟩
      obtain ⟨bb, hbb⟩ : ∃ bb, bb = decide (sp_dr gx < sp_hold D P h m c' d) := ⟨_, rfl⟩
      obtain ⟨Y', V', e1, e2, e3⟩ := pc_patch (x := x5) (c := c') (d := d) hgx hbb hN hJ hB hh hm
      refine ⟨.inr (pk_B (bb = true), Y', V'), by rw [eC, e1], (fun e he => by cases he), pk_stC hC hRA hBA ⟨e2, e3⟩ (hB.act ?_) rfl (fun Y1 V1 h1 h2 => pr_patch hgx hbb hN h1 h2 hB hh hm hc' hd)⟩
      exact ⟨hB.2.2.1.1.1, sp_md_lt hB.2.2.1.1.2.1 (by omega), hB.2.2.1.1.2.2.1, hB.2.2.1.1.2.2.2⟩
    · refine ⟨.inl 2, ?_, (fun e he => by cases he; exact Or.inr rfl), pk_stT hC hRA hBA rfl (k := 2) (by decide) (v := nI 0) (fun Y1 V1 h1 h2 => ⟨_, ?_, pk_frR.rf⟩)⟩
      · rw [eC, q_X11_patch_35, pc_needA, if_neg c, pk_bdxL]
      · simp only [q_X12_patch, h1, pk_ckT, eq_self, pk_letE, pk_lit]
        rw [pr_isHoleY h1 pk_w0 (pr_h9 (pk_JR.w0 h2)) b1 hh, pk_bd2E, if_neg (by decide), pr_isPatch, pk_bs, pr_right h1 pk_w0 (Or.inr rfl), pk_bd2E, if_neg c, pk_Bf c, if_pos rfl]
end
