/-! fault, count, hole, leak -/
section
variable {N z t u s tl r a b c d k n j h m l : Nat} {Y Y' : bk_Lay} {V V' : bk_Val} {x y x1 x2 x3 x4 x5 : Int32} {D : Nat → Nat → Nat} {P : Nat → List Nat} {T : Nat → Nat} {st : pk_St} {hs : List pk_St} {img : Option (pk_St × List pk_St)} {pl : Option (Nat → Nat)} {fp r0 r1 : Int32} {A : pk_A}
theorem pk_IA.e (h : pk_IA z Y V) : ∃ t u s D P T tl st hs img pl fp r0 r1, pk_JC z Y V t u s D P T tl st hs img pl fp r0 r1 ∧ pk_JR (z + 58) V D P T tl st hs img pl fp r0 r1 ∧ pk_JB D P T tl st hs img ∧ pk_CA z Y V (D, P, T, tl, st, hs, img, pl, fp, r0, r1) ∧ pk_RA (z + 58) V (D, P, T, tl, st, hs, img, pl, fp, r0, r1) ∧ pk_BA (D, P, T, tl, st, hs, img, pl, fp, r0, r1) := by
  obtain ⟨⟨D, P, T, tl, st, hs, img, pl, fp, r0, r1⟩, ⟨t, u, s, h1⟩, h2, h3⟩ := h
  exact ⟨t, u, s, D, P, T, tl, st, hs, img, pl, fp, r0, r1, h1, h2, h3, ⟨t, u, s, h1⟩, h2, h3⟩
/-- a call that throws on both sides -/
theorem pk_stT {α β : Type} {g : α → Int64 × bk_Lay × bk_Val} {cd : Nat → Int32} {e k : Nat} {qR : bk_Lay → bk_Val → Option (β × bk_Val)} {cv : β → Int64} {v : β} (hC : pk_CA z Y V A) (hR : pk_RA (z + 58) V A) (hB : pk_BA A) (h1 : cd e = nI k) (h2 : 0 < k ∧ k < 3)
    (h3 : ∀ Y1 V1, pk_Rf Y1 (z + 58) → pk_RA (z + 58) V1 A → ∃ V2, qR Y1 V1 = some (v, V2) ∧ pk_frR (z + 58) (bk_wI (bk_wI V1 (z + 58) 0 (nI 0)) (z + 58) 0 (nI k)) V2) :
    (∀ o, (.inl e : Nat ⊕ α) = .inr o → bk_sh (g o).2.1 (z + 86) = (3, 1)) ∧ ∀ k Y1 V1, bk_hr Y V (z + 86) cd (bk_on g (.inl e)) k Y1 V1 → bk_sh Y1 (z + 58) = (1, 11) ∧ ∃ r2 V2, qR Y1 V1 = some (r2, V2) ∧ bk_sh Y1 (z + 58) = (1, 11) ∧ q_X12_thrown N Y1 V2 (z + 58) = some k ∧ bk_sh Y1 (z + 86) = (3, 1) ∧ (k = 0 → bk_rL V2 (z + 86) 0 = cv r2) ∧ pk_IA z Y1 V2 := by
  refine pk_stp hC hR hB (fun e' he => ?_) (fun o he => by cases he)
  cases he
  refine ⟨k, h1, h2.1, h2.2, fun Y1 V1 q1 q2 => ?_⟩
  obtain ⟨V2, q3, q4⟩ := h3 Y1 V1 q1 q2
  exact ⟨v, V2, q3, pk_RO.fr2 q2 q4⟩
/-- a call that answers and changes nothing that counts -/
theorem pk_stQ {α β : Type} {g : α → Int64 × bk_Lay × bk_Val} {cd : Nat → Int32} {o : α} {qR : bk_Lay → bk_Val → Option (β × bk_Val)} {cv : β → Int64} {v : β} (hC : pk_CA z Y V A) (hR : pk_RA (z + 58) V A) (hB : pk_BA A) (h1 : pk_CA z (g o).2.1 (g o).2.2 A ∧ pk_offR z V (g o).2.2) (h2 : (g o).1 = cv v)
    (h3 : ∀ Y1 V1, pk_Rf Y1 (z + 58) → pk_RA (z + 58) V1 A → ∃ V2, qR Y1 V1 = some (v, V2) ∧ pk_frR (z + 58) (bk_wI V1 (z + 58) 0 (nI 0)) V2) :
    (∀ o', (.inr o : Nat ⊕ α) = .inr o' → bk_sh (g o').2.1 (z + 86) = (3, 1)) ∧ ∀ k Y1 V1, bk_hr Y V (z + 86) cd (bk_on g (.inr o)) k Y1 V1 → bk_sh Y1 (z + 58) = (1, 11) ∧ ∃ r2 V2, qR Y1 V1 = some (r2, V2) ∧ bk_sh Y1 (z + 58) = (1, 11) ∧ q_X12_thrown N Y1 V2 (z + 58) = some k ∧ bk_sh Y1 (z + 86) = (3, 1) ∧ (k = 0 → bk_rL V2 (z + 86) 0 = cv r2) ∧ pk_IA z Y1 V2 := by
  refine pk_stp hC hR hB (fun e' he => by cases he) (fun o' he => ?_)
  cases he
  refine ⟨A, h1.1, h1.2, hB, fun Y1 V1 q1 q2 => ?_⟩
  obtain ⟨V2, q3, q4⟩ := h3 Y1 V1 q1 q2
  exact ⟨v, V2, q3, pk_RO.fr q2 q4, h2⟩
theorem st_2 (hI : pk_IA z Y V) : bk_st2 N z (z + 58) (z + 86) Y V x1 x2 x3 x4 x5 (pk_IA z) := by
  obtain ⟨t, u, s, D, P, T, tl, st, hs, img, pl, fp, r0, r1, hJ, hR, hB, hC, hRA, hBA⟩ := hI.e
  obtain ⟨hM, hS, hz, hT, hs5, -⟩ := hJ.o
  have hRf := hC.rf.1
  refine ⟨fp, ?_, hRf.1, fp, bk_wI V (z + 58) 0 (nI 0), ?_, rfl, ?_⟩
  · simp only [q_X11_fault, hM, pk_ckT, eq_self, hJ.2.2.2.2.2.2.2.2.2.1]
  · simp only [q_X12_fault, hRf, pk_ckT, eq_self, pk_letE, pk_rI_same, pk_lit, Nat.reduceEqDiff, if_false, hR.2.2.2.2.2.2.2.1]
  · exact (pk_RO.fr hRA pk_frR.rf).I hC hBA
def sp_count (D : Nat → Nat → Nat) (st : pk_St) (hs : List pk_St) (tl : Nat) (r0 r1 : Int32) (j : Nat) : Int32 :=
  if j < 8 then nI (D 0 j) else if j = 8 then nI (D 2 0) else if j = 9 then nI (D 7 0) else if j = 10 then nI (D 10 0) else if j < 15 then nI (D 1 (j - 11)) else if j = 15 then nI st.1 else if j = 16 then nI st.2.1 else if j = 17 then nI hs.length else if j = 18 then nI tl else if j = 19 then r0 else r1
theorem pc_count (hJ : pk_JC z Y V t u s D P T tl st hs img pl fp r0 r1) (hj : j < 21) : q_X11_count N Y V z (nI j) = some (.inr (sp_count D st hs tl r0 r1 j)) := by
  obtain ⟨hM, hS, hz, hT, hs5, -⟩ := hJ.o
  have h8 := hJ.2.2.2.2.2.2.1
  have h5 := hJ.2.2.2.2.1.1
  have h10 := hJ.2.2.2.2.2.2.2.2.2.1
  obtain ⟨c1, c2, c3, -, c5, -, c7, -⟩ := hT
  unfold q_X11_count sp_count
  simp only [pc_isWithin, pk_bs, pk_lit, pk_B0]
  by_cases k1 : j < 8
  · rw [if_neg (fun q => q (pk_inn (n := 8) k1 (by decide) rfl)), if_pos k1]
    simp (disch := omega) only [hM, hz, hS, pk_ckT, pk_bs, pk_letE, pk_bd2E, pk_bd3E, if_true, if_false, eq_self, not_true_eq_false, not_false_eq_true, true_and, and_true, Nat.not_lt_zero, Nat.zero_le, Nat.reduceEqDiff, Nat.reduceLT, Nat.reduceLeDiff, pk_ck, pk_lit, nI_add, pk_mul, nI_clamp, nI_leI, nI_ltI, nI_eq, pk_div, pk_remE, pk_inE, pk_sub, c1]
  · rw [if_pos (pk_out (n := 8) (Or.inr (nI_le (by omega) (by omega))) (by decide) (by decide)), if_neg k1]
    by_cases k2 : 11 ≤ j ∧ j < 15
    · rw [if_neg (fun q => q ⟨nI_le (by omega) (by omega), nI_le (by omega) (by omega)⟩), if_neg (by omega), if_neg (by omega), if_neg (by omega), if_pos (by omega)]
      simp (disch := omega) only [hM, hz, hS, pk_ckT, pk_bs, pk_letE, pk_bd2E, pk_bd3E, if_true, if_false, eq_self, not_true_eq_false, not_false_eq_true, true_and, and_true, Nat.not_lt_zero, Nat.zero_le, Nat.reduceEqDiff, Nat.reduceLT, Nat.reduceLeDiff, pk_ck, pk_lit, nI_add, pk_mul, nI_clamp, nI_leI, nI_ltI, nI_eq, pk_div, pk_remE, pk_inE, pk_sub, c2]
    · rw [if_pos (fun q => by rw [nI_leI (by omega) (by omega), nI_leI (by omega) (by omega)] at q; omega)]
      have : j = 8 ∨ j = 9 ∨ j = 10 ∨ j = 15 ∨ j = 16 ∨ j = 17 ∨ j = 18 ∨ j = 19 ∨ j = 20 := by omega
      rcases this with rfl | rfl | rfl | rfl | rfl | rfl | rfl | rfl | rfl <;> simp (disch := omega) only [pk_letE, nI_eq, hM, hz, hS, hs5, pk_ckT, pk_bs, pk_letE, pk_bd2E, pk_bd3E, if_true, if_false, eq_self, not_true_eq_false, not_false_eq_true, true_and, and_true, Nat.not_lt_zero, Nat.zero_le, Nat.reduceEqDiff, Nat.reduceLT, Nat.reduceLeDiff, pk_ck, c3, c5, c7, h8, h5, h10]
theorem pc_countN (hx : x < 0 ∨ nI 21 ≤ x) : q_X11_count N Y V z x = some (.inl 1) := by
  unfold q_X11_count
  simp only [pc_isWithin, pk_bs, pk_lit, pk_B0]
  rw [if_pos (pk_out hx (by decide) (by decide)), if_pos (pk_out2 hx (by decide) (by decide) (by decide)), pk_letE, if_neg (pk_outne hx (by decide) (by decide)), if_neg (pk_outne hx (by decide) (by decide)), if_neg (pk_outne hx (by decide) (by decide)), if_neg (pk_outne hx (by decide) (by decide)), if_neg (pk_outne hx (by decide) (by decide)), if_neg (pk_outne hx (by decide) (by decide)), if_neg (pk_outne hx (by decide) (by decide)), if_neg (pk_outne hx (by decide) (by decide)), if_neg (pk_outne hx (by decide) (by decide))]
theorem pr_count (hS : pk_Rf Y r) (hR : pk_JR r V D P T tl st hs img pl fp r0 r1) (hj : j < 21) : q_X12_count N Y V r (nI j) = some (sp_count D st hs tl r0 r1 j, bk_wI V r 0 (nI 0)) := by
  obtain ⟨⟨c1, c2, -⟩, ⟨h2, -⟩, ⟨h3, h3a, -⟩, h4, -, -, -, h8⟩ := hR
  unfold q_X12_count sp_count
  simp only [hS, pk_ckT, eq_self, pk_letE, pk_lit, pr_within, pk_bs]
  rw [pr_right hS (by simp only [pk_rI_same, if_true]) (Or.inl rfl), pk_bd2E, pk_Bt (pk_inn hj (by decide) rfl), if_pos (pk_inn (n := 21) hj (by decide) rfl), if_neg (by decide)]
  have : j = 0 ∨ j = 1 ∨ j = 2 ∨ j = 3 ∨ j = 4 ∨ j = 5 ∨ j = 6 ∨ j = 7 ∨ j = 8 ∨ j = 9 ∨ j = 10 ∨ j = 11 ∨ j = 12 ∨ j = 13 ∨ j = 14 ∨ j = 15 ∨ j = 16 ∨ j = 17 ∨ j = 18 ∨ j = 19 ∨ j = 20 := by omega
  rcases this with rfl | rfl | rfl | rfl | rfl | rfl | rfl | rfl | rfl | rfl | rfl | rfl | rfl | rfl | rfl | rfl | rfl | rfl | rfl | rfl | rfl <;> simp (disch := omega) only [pk_lit, nI_add, pk_mul, nI_clamp, nI_leI, nI_ltI, nI_eq, pk_div, pk_remE, pk_inE, pk_sub, hS, pk_ckT, pk_bs, pk_letE, pk_bd2E, pk_bd3E, if_true, if_false, eq_self, not_true_eq_false, not_false_eq_true, true_and, and_true, Nat.not_lt_zero, Nat.zero_le, Nat.reduceEqDiff, Nat.reduceLT, Nat.reduceLeDiff, pk_ck, pk_rI_same, pk_rI_ne, pk_rI_wL, pk_rL_wI, pk_rL_same, pk_rL_ne, c1, c2, h2, h3, h3a, h4, h8, Nat.reduceSub]
theorem pr_countN (hS : pk_Rf Y r) (hx : x < 0 ∨ nI 21 ≤ x) : q_X12_count N Y V r x = some (nI 0, bk_wI (bk_wI V r 0 (nI 0)) r 0 (nI 1)) := by
  unfold q_X12_count
  simp only [hS, pk_ckT, eq_self, pk_letE, pk_lit, pr_within, pk_bs]
  have q := pk_out (m := 20) hx (by decide) (by decide)
  rw [pr_right hS (by simp only [pk_rI_same, if_true]) (Or.inl rfl), pk_bd2E, pk_Bf q, if_neg q, if_pos rfl]
theorem st_3 (hI : pk_IA z Y V) : bk_st3 N z (z + 58) (z + 86) Y V x1 x2 x3 x4 x5 (pk_IA z) := by
  obtain ⟨t, u, s, D, P, T, tl, st, hs, img, pl, fp, r0, r1, hJ, hR, hB, hC, hRA, hBA⟩ := hI.e
  rcases pk_ix x1 (n := 21) (by decide) with hx | hx | ⟨j, hj, rfl⟩
  · exact ⟨.inl 1, pc_countN (Or.inl hx), (fun e he => by cases he; rfl), pk_stT hC hRA hBA rfl (by decide) (fun Y1 V1 h1 h2 => ⟨_, pr_countN h1 (Or.inl hx), pk_frR.rf⟩)⟩
  · exact ⟨.inl 1, pc_countN (Or.inr hx), (fun e he => by cases he; rfl), pk_stT hC hRA hBA rfl (by decide) (fun Y1 V1 h1 h2 => ⟨_, pr_countN h1 (Or.inr hx), pk_frR.rf⟩)⟩
  · exact ⟨.inr (sp_count D st hs tl r0 r1 j), pc_count hJ hj, (fun e he => by cases he), pk_stQ hC hRA hBA ⟨hC, pk_offR.rf⟩ rfl (fun Y1 V1 h1 h2 => ⟨_, pr_count h1 h2 hj, pk_frR.rf⟩)⟩
end
