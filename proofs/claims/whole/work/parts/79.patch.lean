/-! holds, glue, patch: the steps -/
section
variable {N z t u s tl r a b c d k n j h m l p q0 md wa s' i : Nat} {Y Y' : bk_Lay} {V V' V2 W : bk_Val} {x y x1 x2 x3 x4 x5 : Int32} {w1 w2 : Int64} {D : Nat → Nat → Nat} {P : Nat → List Nat} {T T' w : Nat → Nat} {st st' g : pk_St} {hs hs' : List pk_St} {img img' : Option (pk_St × List pk_St)} {pl : Option (Nat → Nat)} {fp r0 r1 : Int32} {A B : pk_A}
abbrev pk_wn (x : Int32) (n : Nat) : Prop := nI 0 ≤ x ∧ x ≤ nI n
theorem pk_wnx (h : pk_wn x n) (hn : n < 2 ^ 31) : ∃ j, j ≤ n ∧ x = nI j := by
  have h0 : ¬ x < 0 := Int32.not_lt.mpr h.1
  obtain ⟨j, hj, rfl⟩ := nI_of h0
  exact ⟨j, (nI_leI hj hn).mp h.2, rfl⟩
theorem pk_B01 {c : Prop} [Decidable c] : pk_B c = nI 0 ∨ pk_B c = nI 1 := by
  by_cases q : c
  · exact Or.inr (pk_Bt q)
  · exact Or.inl (pk_Bf q)
theorem pc_hundred : q_X11_isHundred N Y V x = some (pk_B (pk_wn x 100)) := by
  unfold q_X11_isHundred
  simp only [pc_isWithin, pk_bs, pk_lit]
  rw [pk_ck pk_B01]
theorem pr_isPatch : q_X12_isPatch N Y V x1 x2 x3 = some (pk_B (pk_wn x1 60 ∧ pk_wn x2 100 ∧ pk_wn x3 100)) := by
  unfold q_X12_isPatch
  simp only [pr_within, pk_bs, pk_lit, pk_B0]
  by_cases c1 : pk_wn x1 60
  · rw [if_neg (fun q => q c1)]
    by_cases c2 : pk_wn x2 100
    · rw [if_neg (fun q => q c2)]
      by_cases c3 : pk_wn x3 100
      · rw [if_neg (fun q => q c3), pk_Bt ⟨c1, c2, c3⟩]
      · rw [if_pos c3, pk_Bf (fun q => c3 q.2.2)]
    · rw [if_pos c2, pk_Bf (fun q => c2 q.2.1)]
  · rw [if_pos c1, pk_Bf (fun q => c1 q.1)]
theorem pk_3if {α : Type} {c1 c2 c3 : Prop} [Decidable c1] [Decidable c2] [Decidable c3] {f : Int32 → α} : (if ¬ c1 then f (nI 0) else if ¬ c2 then f (nI 0) else if ¬ c3 then f (nI 0) else f (nI 1)) = f (pk_B (c1 ∧ c2 ∧ c3)) := by
  by_cases h1 : c1
  · rw [if_neg (fun q => q h1)]
    by_cases h2 : c2
    · rw [if_neg (fun q => q h2)]
      by_cases h3 : c3
      · rw [if_neg (fun q => q h3), pk_Bt ⟨h1, h2, h3⟩]
      · rw [if_pos h3, pk_Bf (fun q => h3 q.2.2)]
    · rw [if_pos h2, pk_Bf (fun q => h2 q.2.1)]
  · rw [if_pos h1, pk_Bf (fun q => h1 q.1)]
theorem pr_h9 (hR : pk_JR r V D P T tl st hs img pl fp r0 r1) : bk_rI V r 9 = nI (D 2 0) := hR.1.1.2.2.2.2.2.2.2.2.1
theorem st_20 (hN : 20000 ≤ N) (hI : pk_IA z Y V) : bk_st20 N z (z + 58) (z + 86) Y V x1 x2 x3 x4 x5 (pk_IA z) := by
  obtain ⟨t, u, s, D, P, T, tl, st, hs, img, pl, fp, r0, r1, hJ, hR, hB, hC, hRA, hBA⟩ := hI.e
  obtain ⟨hM, hS, hz, hT, hs5, -⟩ := hJ.o
  have b1 : D 2 0 ≤ 6 := hB.1.2.2.2.2.2.2.2.2.2.1
  rcases pk_ix2 x1 (n := D 2 0) (by omega) with hx | ⟨h, hh, rfl⟩
  · refine ⟨.inl 1, ?_, (fun e he => by cases he; exact Or.inl rfl), pk_stT hC hRA hBA rfl (k := 1) (by decide) (v := nI 0) (fun Y1 V1 h1 h2 => ⟨_, ?_, pk_frR.rf⟩)⟩
    · rw [q_X11_holds, pk_ck hM.1, pc_needHoleN hS hM hz.1 hT hB.1 hx, pk_bdxL]
    · simp only [q_X12_holds, h1, pk_ckT, eq_self, pk_letE, pk_lit]
      rw [pr_isHoleN h1 pk_w0 (pr_h9 (pk_JR.w0 h2)) b1 hx, pk_bd2E, if_pos rfl]
  · have eC : q_X11_holds N Y V z (nI h) x2 x3 x4 = q_X11_holds_35 N Y V z (nI h) x2 x3 x4 (pk_B (pk_wn x2 60 ∧ pk_wn x3 100 ∧ pk_wn x4 100)) := by
      rw [q_X11_holds, pk_ck hM.1, pc_needHoleY hS hM hz.1 hT hB.1 hh, pk_bdxR]
      simp only [pc_isWithin, pc_hundred, pk_bs, pk_lit, pk_B0, q_X11_holds_34]
      exact pk_3if (f := q_X11_holds_35 N Y V z (nI h) x2 x3 x4)
    by_cases c : pk_wn x2 60 ∧ pk_wn x3 100 ∧ pk_wn x4 100
    · obtain ⟨m, hm, rfl⟩ := pk_wnx c.1 (by decide)
      obtain ⟨c', hc', rfl⟩ := pk_wnx c.2.1 (by decide)
      obtain ⟨d, hd, rfl⟩ := pk_wnx c.2.2 (by decide)
      obtain ⟨V1, e1, f1⟩ := pc_holdsBy (N := N) (m := m) (c := c') (d := d) (by omega) hS hT hB.1 hh hm
      refine ⟨.inr (nI (sp_hold D P h m c' d), V1), ?_, (fun e he => by cases he), pk_stQ hC hRA hBA (pk_CA.fr hJ f1) rfl (fun Y1 V1 h1 h2 => ?_)⟩
      · rw [eC, q_X11_holds_35, pc_needA, if_pos c, pk_bdxR]
        simp only [hM, hz, hS, pk_ckT, pk_bs, pk_letE, pk_bd2E, pk_bd3E, if_true, if_false, eq_self, not_true_eq_false, not_false_eq_true, true_and, and_true, Nat.not_lt_zero, Nat.zero_le, Nat.reduceEqDiff, Nat.reduceLT, Nat.reduceLeDiff, pk_ck, e1]
      · have h3 : pk_JR (z + 58) (bk_wI V1 (z + 58) 0 (nI 0)) D P T tl st hs img pl fp r0 r1 := pk_JR.w0 h2
        obtain ⟨V2, e2, f2⟩ := pr_holdsOf (N := N) (m := m) (c := c') (d := d) (by omega) h1 h3.1 hB.1 hh hm
        refine ⟨V2, ?_, f2⟩
        simp only [q_X12_holds, h1, pk_ckT, eq_self, pk_letE, pk_lit]
        rw [pr_isHoleY h1 pk_w0 (pr_h9 h3) b1 hh, pk_bd2E, if_neg (by decide), pr_isPatch, pk_bs, pr_right h1 pk_w0 (Or.inr rfl), pk_bd2E, if_pos c, pk_Bt c, if_neg (by decide), e2, pk_bd2E]
    · refine ⟨.inl 2, ?_, (fun e he => by cases he; exact Or.inr rfl), pk_stT hC hRA hBA rfl (k := 2) (by decide) (v := nI 0) (fun Y1 V1 h1 h2 => ⟨_, ?_, pk_frR.rf⟩)⟩
      · rw [eC, q_X11_holds_35, pc_needA, if_neg c, pk_bdxL]
      · simp only [q_X12_holds, h1, pk_ckT, eq_self, pk_letE, pk_lit]
        rw [pr_isHoleY h1 pk_w0 (pr_h9 (pk_JR.w0 h2)) b1 hh, pk_bd2E, if_neg (by decide), pr_isPatch, pk_bs, pr_right h1 pk_w0 (Or.inr rfl), pk_bd2E, if_neg c, pk_Bf c, if_pos rfl]
theorem st_21 (hN : 20000 ≤ N) (hI : pk_IA z Y V) : bk_st21 N z (z + 58) (z + 86) Y V x1 x2 x3 x4 x5 (pk_IA z) := by
  obtain ⟨t, u, s, D, P, T, tl, st, hs, img, pl, fp, r0, r1, hJ, hR, hB, hC, hRA, hBA⟩ := hI.e
  obtain ⟨hM, hS, hz, hT, hs5, -⟩ := hJ.o
  have b1 : D 2 0 ≤ 6 := hB.1.2.2.2.2.2.2.2.2.2.1
  rcases pk_ix2 x1 (n := D 2 0) (by omega) with hx | ⟨h, hh, rfl⟩
  · refine ⟨.inl 1, ?_, (fun e he => by cases he; exact Or.inl rfl), pk_stT hC hRA hBA rfl (k := 1) (by decide) (v := nI 0) (fun Y1 V1 h1 h2 => ⟨_, ?_, pk_frR.rf⟩)⟩
    · rw [q_X11_glue, pk_ck hM.1, pc_needHoleN hS hM hz.1 hT hB.1 hx, pk_bdxL]
    · simp only [q_X12_glue, h1, pk_ckT, eq_self, pk_letE, pk_lit]
      rw [pr_isHoleN h1 pk_w0 (pr_h9 (pk_JR.w0 h2)) b1 hx, pk_bd2E, if_pos rfl]
  · have eC : q_X11_glue N Y V z (nI h) x2 x3 x4 = q_X11_glue_32 N Y V z (nI h) x2 x3 x4 (pk_B (pk_wn x2 100 ∧ pk_wn x3 100 ∧ pk_wn x4 100)) := by
      rw [q_X11_glue, pk_ck hM.1, pc_needHoleY hS hM hz.1 hT hB.1 hh, pk_bdxR]
      simp only [pc_hundred, pk_bs, pk_lit, pk_B0, q_X11_glue_31]
      exact pk_3if (f := q_X11_glue_32 N Y V z (nI h) x2 x3 x4)
    have eR : ∀ Y1 V1, pk_Rf Y1 (z + 58) → pk_RA (z + 58) V1 (D, P, T, tl, st, hs, img, pl, fp, r0, r1) → q_X12_glue N Y1 V1 (z + 58) (nI h) x2 x3 x4 = q_X12_glue_39 N Y1 (bk_wI V1 (z + 58) 0 (nI 0)) (z + 58) (nI h) x2 x3 x4 (z + 58) (pk_B (pk_wn x2 100 ∧ pk_wn x3 100 ∧ pk_wn x4 100)) := by
      intro Y1 V1 h1 h2
      simp only [q_X12_glue, h1, pk_ckT, eq_self, pk_letE, pk_lit]
      rw [pr_isHoleY h1 pk_w0 (pr_h9 (pk_JR.w0 h2)) b1 hh, pk_bd2E, if_neg (by decide), pr_isPatch]
      simp only [pk_bs, pr_within, pk_lit, pk_B0, q_X12_glue_38]
      by_cases h12 : pk_wn (nI 0) 60 ∧ pk_wn x2 100 ∧ pk_wn x3 100
      · rw [if_neg (fun q => q h12)]
        by_cases h3 : pk_wn x4 100
        · rw [if_neg (fun q => q h3), pk_Bt ⟨h12.2.1, h12.2.2, h3⟩]
        · rw [if_pos h3, pk_Bf (fun q => h3 q.2.2)]
      · rw [if_pos h12, pk_Bf (fun q => h12 ⟨by decide, q.1, q.2.1⟩)]
    by_cases c : pk_wn x2 100 ∧ pk_wn x3 100 ∧ pk_wn x4 100
    · obtain ⟨c', hc', rfl⟩ := pk_wnx c.1 (by decide)
      obtain ⟨d, hd, rfl⟩ := pk_wnx c.2.1 (by decide)
      obtain ⟨p, hp, rfl⟩ := pk_wnx c.2.2 (by decide)
      obtain ⟨V1, e1, f1⟩ := pc_glueFor (N := N) (c := c') (d := d) (by omega) hS hT hB.1 hh hp
      refine ⟨.inr (pk_on (sp_glue D P h c' d p), V1), ?_, (fun e he => by cases he), pk_stQ hC hRA hBA (pk_CA.fr hJ f1) rfl (fun Y1 V1 h1 h2 => ?_)⟩
      · rw [eC, q_X11_glue_32, pc_needA, if_pos c, pk_bdxR]
        simp only [hM, hz, hS, pk_ckT, pk_bs, pk_letE, pk_bd2E, pk_bd3E, if_true, if_false, eq_self, not_true_eq_false, not_false_eq_true, true_and, and_true, Nat.not_lt_zero, Nat.zero_le, Nat.reduceEqDiff, Nat.reduceLT, Nat.reduceLeDiff, pk_ck, e1]
      · have h3 : pk_JR (z + 58) (bk_wI V1 (z + 58) 0 (nI 0)) D P T tl st hs img pl fp r0 r1 := pk_JR.w0 h2
        obtain ⟨V2, e2, f2⟩ := pr_glueOf (N := N) (c := c') (d := d) (by omega) h1 h3.1 hB.1 hh hp
        refine ⟨V2, ?_, f2⟩
        rw [eR Y1 V1 h1 h2, q_X12_glue_39]
        simp only [h1, pk_ckT, eq_self, pk_lit]
        rw [pr_right h1 pk_w0 (Or.inr rfl), pk_bd2E, if_pos c, pk_Bt c, if_neg (by decide), e2, pk_bd2E]
    · refine ⟨.inl 2, ?_, (fun e he => by cases he; exact Or.inr rfl), pk_stT hC hRA hBA rfl (k := 2) (by decide) (v := nI 0) (fun Y1 V1 h1 h2 => ⟨_, ?_, pk_frR.rf⟩)⟩
      · rw [eC, q_X11_glue_32, pc_needA, if_neg c, pk_bdxL]
      · rw [eR Y1 V1 h1 h2, q_X12_glue_39]
        simp only [h1, pk_ckT, eq_self, pk_lit]
        rw [pr_right h1 pk_w0 (Or.inr rfl), pk_bd2E, if_neg c, pk_Bf c, if_pos rfl]
/-! draws -/
def sp_gr (x : Int32) : Int32 := x * 1103515245 + 12345
def sp_dr (x : Int32) : Nat := (bk_ushr x 16).toBitVec.toNat % 32768 % 100
theorem pk_sameand (x : Int32) : (bk_shr x 16) &&& 32767 = (bk_ushr x 16) &&& 32767 := by
  apply Int32.toBitVec_inj.1
  apply BitVec.eq_of_getLsbD_eq
  intro i hi
  have e1 : ((bk_shr x 16) &&& 32767).toBitVec = x.toBitVec.sshiftRight 16 &&& 32767#32 := rfl
  have e2 : ((bk_ushr x 16) &&& 32767).toBitVec = (x.toBitVec >>> 16) &&& 32767#32 := rfl
  rw [e1, e2, BitVec.getLsbD_and, BitVec.getLsbD_and]
  by_cases c : i < 15
  · rw [BitVec.getLsbD_sshiftRight, BitVec.getLsbD_ushiftRight]
    have : 16 + i < 32 := by omega
    have h2 : ¬ 32 ≤ i := by omega
    rw [if_pos this]
    simp [h2]
  · have : (32767#32).getLsbD i = false := by
      have : ∀ i, i < 32 → ¬ i < 15 → (32767#32).getLsbD i = false := by decide
      exact this i hi c
    rw [this, Bool.and_false, Bool.and_false]
theorem pk_drv (x : Int32) : (bk_ushr x 16) &&& 32767 = nI ((bk_ushr x 16).toBitVec.toNat % 32768) := pk_and _ 15 (by decide)
theorem pc_draw : q_X11_drawOfHundred N Y V x = some (nI (sp_dr x)) := by
  unfold q_X11_drawOfHundred
  rw [pk_drv, show (100 : Int32) = nI 100 from rfl, pk_remE (by omega) (by omega) (by omega)]
  rfl
theorem pr_draw (hS : pk_Rf Y r) : q_X12_draw N Y V r (nI 100) = some (nI (sp_dr (sp_gr (bk_rI V r 71))), bk_wI V r 71 (sp_gr (bk_rI V r 71))) := by
  unfold q_X12_draw
  rw [pk_ck hS.1, pk_letE, pk_ck (by decide)]
  have : bk_rI (bk_wI V r 71 (bk_rI V r 71 * 1103515245 + 12345)) r 71 = sp_gr (bk_rI V r 71) := by rw [pk_rI_same, if_pos rfl]; rfl
  rw [this, pk_sameand, pk_drv, pk_remE (by omega) (by omega) (by omega)]
  rfl
theorem sp_dr_lt : sp_dr x < 100 := Nat.mod_lt _ (by decide)
end
