/-! sweep, seeks -/
def sp_swI (D : Nat → Nat → Nat) (g k : Nat) : Nat := k / g % ((D 0 0 + D 0 1 - 1) / D 0 1) * D 0 1
def sp_ss (o : Nat → Option (Nat × Nat)) : Nat → Nat × Nat × Nat
  | 0 => (0, 0, 0)
  | n + 1 => match o n with
    | none => sp_ss o n
    | some g => ((sp_ss o n).1 + 1, (sp_ss o n).2.1 + (g.1 + 1), max (sp_ss o n).2.2 (g.1 + 1))
section
variable {N z t u s tl r a b c d k n j h m l p q q0 md wa s' i f e gg v S : Nat} {Y Y' : bk_Lay} {V V' V2 W : bk_Val} {x y x1 x2 x3 x4 x5 ee : Int32} {w1 w2 : Int64} {D : Nat → Nat → Nat} {P : Nat → List Nat} {T T' w R G In : Nat → Nat} {st st' g : pk_St} {hs hs' : List pk_St} {img img' : Option (pk_St × List pk_St)} {pl pl' : Option (Nat → Nat)} {fp r0 r1 : Int32} {A B : pk_A}
theorem sp_stops (hB : pk_DB D P) : 1 ≤ (D 0 0 + D 0 1 - 1) / D 0 1 ∧ (D 0 0 + D 0 1 - 1) / D 0 1 ≤ 100 := by
  have b0 := hB.1
  have b1 := hB.2.1
  constructor
  · rw [Nat.le_div_iff_mul_le (by omega)]
    omega
  · exact Nat.le_trans (Nat.div_le_self _ _) (by omega)
theorem sp_swI_lt (hB : pk_DB D P) : sp_swI D gg k < D 0 0 := by
  have b0 := hB.1
  have b1 := hB.2.1
  have h1 := sp_stops hB
  have h2 := Nat.div_mul_le_self (D 0 0 + D 0 1 - 1) (D 0 1)
  have h3 : k / gg % ((D 0 0 + D 0 1 - 1) / D 0 1) < (D 0 0 + D 0 1 - 1) / D 0 1 := Nat.mod_lt _ (by omega)
  unfold sp_swI
  generalize (D 0 0 + D 0 1 - 1) / D 0 1 = Q at h1 h2 h3
  generalize k / gg % Q = X at h3
  have h4 : (X + 1) * D 0 1 ≤ Q * D 0 1 := Nat.mul_le_mul_right _ h3
  rw [Nat.add_mul] at h4
  omega
theorem pc_swept (hS : pk_Sd Y t) (hT : pk_CT V t D P) (hB : pk_DB D P) (hg : 1 ≤ gg ∧ gg ≤ 60) (hk : k < 600) : q_X5_sweptInch N Y V t (nI k) (nI gg) = some (nI (sp_swI D gg k)) := by
  have b0 := hB.1
  have b1 := hB.2.1
  have h1 := sp_stops hB
  have hq : k / gg < 2 ^ 31 := Nat.lt_of_le_of_lt (Nat.div_le_self _ _) (by omega)
  unfold q_X5_sweptInch
  rw [pk_ck hS.1, pc_hand hS hT, pk_bs]
  simp (disch := omega) only [pk_lit, pc_max, pk_bs, pc_inches hS hT, Nat.max_eq_left, nI_eq]
  rw [pk_ck (by omega), pk_letE, nI_add, pk_sub (by omega), pk_div (by omega) (by omega) (by omega)]
  simp (disch := omega) only [pc_max, pk_bs, Nat.max_eq_left, nI_eq]
  rw [pk_ck (by omega), pk_ck (by omega), pk_div (by omega) (by omega) (by omega), pk_remE hq (by omega) (by omega), pk_mul]
  rfl
theorem pc_fb20w (hN : 20000 ≤ N) (hM : pk_Mn Y z) (hz : bk_rR Y z 5 = some t) (hS : pk_Sd Y t) (hT : pk_CT V t D P) (hB : pk_DB D P) (hs6 : S < 64) (hg : 1 ≤ gg ∧ gg ≤ 60) : q_X11_findBy_20 N N Y V z (nI S) (nI gg) ee 0 = some (sp_fI (sp_fin (sp_FF D S (sp_swI D gg)) 600 0 ee), Y, V) := by
  refine loop_i (σ := Int32) (fun fu j e => q_X11_findBy_20 N fu Y V z (nI S) (nI gg) e (nI j) = some (sp_fI (sp_fin (sp_FF D S (sp_swI D gg)) (600 - j) j e), Y, V)) (fun _ _ => True) 600 ?_ ?_ N 0 ee (by omega) (by omega) trivial
  · intro fu e _
    rw [q_X11_findBy_20, if_pos (by decide)]
    rfl
  · intro fu j e hj _ ih
    have hf := pc_fb59 (N := N) (V := V) (K := q_X11_findBy_20 N fu) (x3 := nI gg) (ee := e) (k := j) (by omega) hM hz hS hT hB hs6 (sp_swI_lt (gg := gg) (k := j) hB)
    rw [q_X11_findBy_20, if_neg (show ¬ (600 : Int32) ≤ nI j from (show ¬ nI 600 ≤ nI j by rw [nI_leI (by omega) (by omega)]; omega)), if_neg (show ¬ nI gg = (0 : Int32) from (show ¬ nI gg = nI 0 by rw [nI_eq (by omega) (by omega)]; omega)), pk_ck hM.1, hz, pk_bs, pk_ck hS.1, pc_swept hS hT hB hg hj, pk_bs]
    rw [hf, show 600 - j = (600 - (j + 1)) + 1 by omega]
    unfold sp_fin
    rcases hc : (sp_FF D S (sp_swI D gg) j e).2 with _ | h'
    · rw [show (sp_fd (sp_hit D S (sp_swI D gg j)) (D 0 2) e (D 2 0)).2 = none from hc]
      exact ih (sp_FF D S (sp_swI D gg) j e).1 trivial
    · rw [show (sp_fd (sp_hit D S (sp_swI D gg j)) (D 0 2) e (D 2 0)).2 = some h' from hc]
      rfl
theorem pc_findW (hN : 20000 ≤ N) (hM : pk_Mn Y z) (hz : bk_rR Y z 5 = some t) (hS : pk_Sd Y t) (hT : pk_CT V t D P) (hB : pk_DB D P) (hs6 : S < 64) (hg : 1 ≤ gg ∧ gg ≤ 60) : q_X11_findBy N Y V z ee (nI S) (nI gg) = some (sp_fI (sp_fin (sp_FF D S (sp_swI D gg)) 600 0 ee), Y, V) := by
  unfold q_X11_findBy
  by_cases c : S = 0
  · rw [c, if_pos (show nI 0 = (0 : Int32) from rfl), sp_fin_no (fun k e => sp_FF_0 k e)]
    rfl
  · rw [if_neg (show ¬ nI S = (0 : Int32) from (show ¬ nI S = nI 0 by rw [nI_eq (by omega) (by omega)]; exact c)), if_neg (show ¬ nI gg = (0 : Int32) from (show ¬ nI gg = nI 0 by rw [nI_eq (by omega) (by omega)]; omega)), q_X11_findBy_14]
    exact pc_fb20w hN hM hz hS hT hB hs6 hg
theorem pr_sw58 (hN : 1000 ≤ N) (hS : pk_Rf Y r) (hT : pk_RT V r D P) (hB : pk_DB D P) (hm : bk_rI V r 60 = nI md) (hmd : md < 64) (hl : l < 2) (he : bk_rI V r 71 = ee) (hc : c < 2) (hg : 1 ≤ gg ∧ gg ≤ 60) : ∃ V', q_X12_sweep_58 N Y N V r (nI l) (nI gg) (nI c) (nI ((D 0 0 + D 0 1 - 1) / D 0 1)) 0 = some (sp_pI (sp_fin (sp_FF D (sp_lk D md l) (sp_swI D gg)) 600 0 ee) c, V') ∧ pk_frR r V V' := by
  have b0 := hB.1
  have b1 := hB.2.1
  have hst := sp_stops hB
  obtain ⟨F, hFF⟩ : ∃ F, F = sp_FF D (sp_lk D md l) (sp_swI D gg) := ⟨_, rfl⟩
  rw [← hFF]
  refine loop_i (σ := bk_Val × Int32) (fun fu j g => ∃ V', q_X12_sweep_58 N Y fu g.1 r (nI l) (nI gg) (nI c) (nI ((D 0 0 + D 0 1 - 1) / D 0 1)) (nI j) = some (sp_pI (sp_fin F (600 - j) j g.2) c, V') ∧ pk_frR r V V') (fun j g => pk_frR r V g.1 ∧ bk_rI g.1 r 71 = g.2) 600 ?_ ?_ N 0 (V, ee) (by omega) (by omega) ⟨pk_frR.rf, he⟩
  · intro fu g hV
    exact ⟨g.1, by rw [q_X12_sweep_58, if_pos (by decide)]; rfl, hV.1⟩
  · intro fu j g hj hV ih
    obtain ⟨g1, g4⟩ := hV
    have hT1 := hT.fr g1
    have h60 : bk_rI g.1 r 60 = nI md := (g1.2.1 60 (by omega) (by omega) (by omega) (by omega)).trans hm
    have hq : j / gg < 2 ^ 31 := Nat.lt_of_le_of_lt (Nat.div_le_self _ _) (by omega)
    obtain ⟨V4, s1, s2, s3, s4⟩ := pr_shows (N := N) hN hS hT1 hB h60 hmd hl (sp_swI_lt (gg := gg) (k := j) hB) g4
    have hFd : F j g.2 = sp_fd (sp_hit D (sp_lk D md l) (sp_swI D gg j)) (D 0 2) g.2 (D 2 0) := by rw [hFF]; rfl
    rw [← hFd] at s1 s3 s4
    have hx : bk_rI g.1 r 2 * bk_rem (nI j / nI gg) (nI ((D 0 0 + D 0 1 - 1) / D 0 1)) = nI (sp_swI D gg j) := by
      rw [hT1.1.2.1, pk_div (by omega) (by omega) (by omega), pk_remE hq (by omega) (by omega), pk_mul, Nat.mul_comm]
      rfl
    rw [q_X12_sweep_58, if_neg (show ¬ (600 : Int32) ≤ nI j from (show ¬ nI 600 ≤ nI j by rw [nI_leI (by omega) (by omega)]; omega)), pk_ck hS.1, pk_ck (show ¬ nI gg = (0 : Int32) from (show ¬ nI gg = nI 0 by rw [nI_eq (by omega) (by omega)]; omega)), pk_ck (show ¬ nI ((D 0 0 + D 0 1 - 1) / D 0 1) = (0 : Int32) from (show ¬ nI ((D 0 0 + D 0 1 - 1) / D 0 1) = nI 0 by rw [nI_eq (by omega) (by omega)]; omega)), hx, s1, pk_bd2E, show 600 - j = (600 - (j + 1)) + 1 by omega]
    simp (disch := omega) only [pk_lit, pk_B0, nI_eq, nI_add]
    unfold sp_fin
    rcases hc' : (F j g.2).2 with _ | h'
    · rw [if_pos (fun q => q rfl)]
      exact ih (V4, (F j g.2).1) ⟨g1.tr s2.toR, s3⟩
    · rw [if_neg (fun q => by cases q (by intro e; cases e))]
      rw [hc'] at s4
      refine ⟨V4, ?_, g1.tr s2.toR⟩
      by_cases c0 : c = 0
      · rw [if_pos c0, c0]
        rfl
      · rw [if_neg c0, s4, show c = 1 by omega]
        rfl
theorem st_34 (hN : 20000 ≤ N) (hI : pk_IA z Y V) : bk_st34 N z (z + 58) (z + 86) Y V x1 x2 x3 x4 x5 (pk_IA z) := by
  obtain ⟨t, u, s, D, P, T, tl, st, hs, img, pl, fp, r0, r1, hJ, hR, hB, hC, hRA, hBA⟩ := hI.e
  obtain ⟨hM, hS, hz, hT, hs5, -⟩ := hJ.o
  have hl := sp_l_lt (x := x2)
  have hlk := sp_lk_lt (md := st.2.2.1) (l := sp_l x2) hB.1
  have b0 := hB.1.1
  have b1 := hB.1.2.1
  unfold bk_st34
  rw [pk_bl]
  rcases pk_ix2 x4 (n := 2) (by omega) with hx | ⟨c, hc, rfl⟩
  · have ho : ¬ (nI 0 ≤ x4 ∧ x4 ≤ nI 1) := pk_out hx (by omega) (by omega)
    refine ⟨.inl 1, ?_, (fun e he => by cases he; exact Or.inl rfl), pk_stT hC hRA hBA rfl (k := 1) (by decide) (v := nI 0) (fun Y1 V1 h1 h2 => ⟨_, ?_, pk_frR.rf⟩)⟩
    · simp only [q_X11_sweep, pc_isWithin, pk_bs, pk_lit, pc_needE]
      rw [if_neg ho, pk_bdxL]
    · simp only [q_X12_sweep, h1, pk_ckT, eq_self, pk_letE, pk_lit]
      rw [pr_isWhat h1 pk_w0, pk_bd2E, if_neg ho, pk_Bf ho, if_pos rfl]
  · have hin : nI 0 ≤ nI c ∧ nI c ≤ nI 1 := pk_inn hc (by omega) rfl
    by_cases hw : nI 1 ≤ x3 ∧ x3 ≤ nI 60
    · obtain ⟨gg, hg, rfl⟩ : ∃ gg, (1 ≤ gg ∧ gg ≤ 60) ∧ x3 = nI gg := by
        rcases pk_ix2 x3 (n := 61) (by omega) with hx | ⟨j, hj, rfl⟩
        · exact absurd hw (pk_out2 hx (by omega) (by omega) (by omega))
        · exact ⟨j, ⟨(nI_leI (by omega) (by omega)).mp hw.1, by omega⟩, rfl⟩
      have hf := pc_findW (N := N) (ee := x1) hN hM hz.1 hS hT hB.1 hlk hg
      have hp := pc_part (N := N) (Y := Y) (V := V) (c := c) (sp_fin_b (S := sp_lk D st.2.2.1 (sp_l x2)) (In := sp_swI D gg) (ee := x1) hB.1) hc
      refine ⟨.inr (sp_pI (sp_fin (sp_FF D (sp_lk D st.2.2.1 (sp_l x2)) (sp_swI D gg)) 600 0 x1) c, Y, V), ?_, (fun e he => by cases he), pk_stQ hC hRA hBA ⟨hC, pk_offR.rf⟩ rfl (fun Y1 V1 h1 h2 => ?_)⟩
      · simp only [q_X11_sweep, pc_isWithin, pk_bs, pk_lit, pc_needE, pc_needA]
        rw [if_pos hin, pk_bdxR, if_pos hw, pk_bdxR, pk_ck hM.1, pc_lk (by omega) hJ hB hl, pk_bs, hf, pk_bd3E, hp, pk_bs]
      · have h3 : pk_JR (z + 58) (bk_wI V1 (z + 58) 0 (nI 0)) D P T tl st hs img pl fp r0 r1 := pk_JR.w0 h2
        have h4 : pk_JR (z + 58) (bk_wI (bk_wI V1 (z + 58) 0 (nI 0)) (z + 58) 71 x1) D P T tl st hs img pl fp r0 r1 := h3.frr pk_frR.w71
        obtain ⟨V3, a1, a2⟩ := pr_sw58 (N := N) (c := c) (gg := gg) (ee := x1) (by omega) h1 h4.1 hB.1 h4.2.2.1.2.2.1 hB.2.2.1.1.2.1 hl (by rw [pk_rI_same, if_pos rfl]) hc hg
        refine ⟨V3, ?_, pk_frR.w71.tr a2⟩
        simp only [q_X12_sweep, h1, pk_ckT, eq_self, pk_letE, pk_lit]
        rw [pr_isWhat h1 pk_w0, pk_bd2E, if_pos hin, pk_Bt hin, if_neg (by decide), pr_within, pk_bs, pr_right h1 pk_w0 (Or.inr rfl), pk_bd2E, if_pos hw, pk_Bt hw, if_neg (by decide), h4.1.1.2.1, h4.1.1.1, pk_ck (by rw [nI_eq (by omega) (by omega)]; omega), nI_add, pk_sub (by omega), pk_div (by omega) (by omega) (by omega)]
        exact a1
    · refine ⟨.inl 2, ?_, (fun e he => by cases he; exact Or.inr rfl), pk_stT hC hRA hBA rfl (k := 2) (by decide) (v := nI 0) (fun Y1 V1 h1 h2 => ⟨_, ?_, pk_frR.rf⟩)⟩
      · simp only [q_X11_sweep, pc_isWithin, pk_bs, pk_lit, pc_needE, pc_needA]
        rw [if_pos hin, pk_bdxR, if_neg hw, pk_bdxL]
      · simp only [q_X12_sweep, h1, pk_ckT, eq_self, pk_letE, pk_lit]
        rw [pr_isWhat h1 pk_w0, pk_bd2E, if_pos hin, pk_Bt hin, if_neg (by decide), pr_within, pk_bs, pr_right h1 pk_w0 (Or.inr rfl), pk_bd2E, if_neg hw, pk_Bf hw, if_pos rfl]
/-! seeks -/
theorem sp_ss_le {o : Nat → Option (Nat × Nat)} (ho : ∀ n g, o n = some g → g.1 < 600) : ∀ n, (sp_ss o n).2.2 ≤ 600
  | 0 => by show 0 ≤ 600; omega
  | n + 1 => by
    have ih := sp_ss_le ho n
    unfold sp_ss
    rcases hc : o n with _ | g
    · exact ih
    · have := ho n g hc
      show max (sp_ss o n).2.2 (g.1 + 1) ≤ 600
      omega
theorem sp_ss_n {o : Nat → Option (Nat × Nat)} (h : o n = none) : sp_ss o (n + 1) = sp_ss o n := by
  show (match o n with | none => sp_ss o n | some g => ((sp_ss o n).1 + 1, (sp_ss o n).2.1 + (g.1 + 1), max (sp_ss o n).2.2 (g.1 + 1))) = _
  rw [h]
theorem sp_ss_s {o : Nat → Option (Nat × Nat)} {g : Nat × Nat} (h : o n = some g) : sp_ss o (n + 1) = ((sp_ss o n).1 + 1, (sp_ss o n).2.1 + (g.1 + 1), max (sp_ss o n).2.2 (g.1 + 1)) := by
  show (match o n with | none => sp_ss o n | some g => ((sp_ss o n).1 + 1, (sp_ss o n).2.1 + (g.1 + 1), max (sp_ss o n).2.2 (g.1 + 1))) = _
  rw [h]
def sp_s3 (g : Nat × Nat × Nat) (c : Nat) : Nat := if c = 0 then g.1 else if c = 1 then g.2.1 else g.2.2
theorem pc_ss39 {o : Nat → Option (Nat × Nat)} (hN : 20000 ≤ N) (hJ : pk_JC z Y V t u s D P T tl st hs img pl fp r0 r1) (hB : pk_JB D P T tl st hs img) (hs6 : S < 64) (hm : m ≤ 30) (hc : c < 3) (ho : o = fun i => sp_fin (sp_FF D S (fun k => sp_next D (sp_rt D st.2.2.2 k))) 600 0 (x1 + nI i)) : ∃ Y' V', q_X11_seeks_39 N N Y V z x1 (nI m) (nI c) (nI S) 0 0 0 0 = some (.inr (nI (sp_s3 (sp_ss o m) c), Y', V')) ∧ pk_offR z V V' ∧ pk_JC z Y' V' t u s D P T tl st hs img pl fp r0 r1 := by
  have hob : ∀ n g, o n = some g → g.1 < 600 ∧ g.2 < 6 := fun n g h => by rw [ho] at h; exact sp_fin_b hB.1 g h
  have hsl := sp_ss_le (o := o) (fun n g h => (hob n g h).1)
  refine loop_i (σ := bk_Lay × bk_Val) (fun fu j g => ∃ Y' V', q_X11_seeks_39 N fu g.1 g.2 z x1 (nI m) (nI c) (nI S) (nI (sp_ss o j).1) (nI (sp_ss o j).2.1) (nI (sp_ss o j).2.2) (nI j) = some (.inr (nI (sp_s3 (sp_ss o m) c), Y', V')) ∧ pk_offR z V V' ∧ pk_JC z Y' V' t u s D P T tl st hs img pl fp r0 r1) (fun j g => pk_offR z V g.2 ∧ pk_JC z g.1 g.2 t u s D P T tl st hs img pl fp r0 r1) m ?_ ?_ N 0 (Y, V) (by omega) (by omega) ⟨pk_offR.rf, hJ⟩
  · intro fu g hV
    refine ⟨g.1, g.2, ?_, hV⟩
    rw [q_X11_seeks_39, if_pos (nI_le (by omega) (by omega))]
    simp (disch := omega) only [pk_lit, nI_eq]
    unfold sp_s3
    by_cases c0 : c = 0
    · rw [if_pos c0, if_pos c0]
    · rw [if_neg c0, if_neg c0]
      by_cases c1 : c = 1
      · rw [if_pos c1, if_pos c1]
      · rw [if_neg c1, if_neg c1]
  · intro fu j g hj hV ih
    obtain ⟨g1, g2⟩ := hV
    have hM1 := g2.o.1
    have hs1 := hsl j
    obtain ⟨Y', V', f1, f2, f3⟩ := pc_find (N := N) (ee := x1 + nI j) hN g2 hB hs6
    have hoj : sp_fin (sp_FF D S (fun k => sp_next D (sp_rt D st.2.2.2 k))) 600 0 (x1 + nI j) = o j := by rw [ho]
    rw [hoj] at f1
    have ih' := ih (Y', V') ⟨g1.tr f2, f3⟩
    rw [q_X11_seeks_39, if_neg (by rw [nI_leI (by omega) (by omega)]; omega), pk_ck hM1.1, f1, pk_bd3E]
    rcases hc' : o j with _ | h'
    · rw [sp_ss_n hc'] at ih'
      rw [if_pos (show sp_fI none = (-1 : Int32) from rfl), q_X11_seeks_91, show nI j + 1 = nI (j + 1) from nI_add j 1]
      exact ih'
    · rw [sp_ss_s hc'] at ih'
      have hb := hob j h' hc'
      have hp := pc_part (N := N) (Y := Y') (V := V') (c := 0) (o := some h') (fun g hg => by rw [← Option.some.inj hg]; exact hb) (by omega)
      have e1 : ¬ sp_fI (some h') = (-1 : Int32) := fun q => (pk_eqm1 (a := (h'.1 + 1) * 6 + h'.2) (by omega)).mp q
      rw [if_neg e1, show q_X11_partOfFind N Y' V' (sp_fI (some h')) 0 = some (nI (h'.1 + 1)) from hp, pk_bs, pc_max (by omega) (by omega), pk_bs, q_X11_seeks_91, show nI j + 1 = nI (j + 1) from nI_add j 1, nI_add, show nI (sp_ss o j).1 + 1 = nI ((sp_ss o j).1 + 1) from nI_add _ 1]
      exact ih'
theorem pr_ss44 {o : Nat → Option (Nat × Nat)} (hN : 20000 ≤ N) (hS : pk_Rf Y r) (hR : pk_JR r V D P T tl st hs img pl fp r0 r1) (hB : pk_JB D P T tl st hs img) (hl : l < 2) (hm : m ≤ 30) (hc : c < 3) (ho : o = fun i => sp_fin (sp_FF D (sp_lk D st.2.2.1 l) (fun k => sp_next D (sp_rt D st.2.2.2 k))) 600 0 (x1 + nI i)) : ∃ V', q_X12_seeks_44 N Y N V r x1 (nI m) (nI l) (nI c) 0 0 0 0 = some (nI (sp_s3 (sp_ss o m) c), V') ∧ pk_frR r V V' := by
  have hob : ∀ n g, o n = some g → g.1 < 600 ∧ g.2 < 6 := fun n g h => by rw [ho] at h; exact sp_fin_b hB.1 g h
  have hsl := sp_ss_le (o := o) (fun n g h => (hob n g h).1)
  refine loop_i (σ := bk_Val) (fun fu j V1 => ∃ V', q_X12_seeks_44 N Y fu V1 r x1 (nI m) (nI l) (nI c) (nI (sp_ss o j).1) (nI (sp_ss o j).2.1) (nI (sp_ss o j).2.2) (nI j) = some (nI (sp_s3 (sp_ss o m) c), V') ∧ pk_frR r V V') (fun j V1 => pk_frR r V V1) m ?_ ?_ N 0 V (by omega) (by omega) pk_frR.rf
  · intro fu V1 hV
    refine ⟨V1, ?_, hV⟩
    rw [q_X12_seeks_44, if_pos (nI_le (by omega) (by omega))]
    simp (disch := omega) only [pk_lit, nI_eq]
    unfold sp_s3
    by_cases c0 : c = 0
    · rw [if_pos c0, if_pos c0]
    · rw [if_neg c0, if_neg c0]
      by_cases c1 : c = 1
      · rw [if_pos c1, if_pos c1]
      · rw [if_neg c1, if_neg c1]
  · intro fu j V1 hj hV ih
    have hs1 := hsl j
    obtain ⟨V3, f1, f2, f3, -⟩ := pr_seeksBy (N := N) (ee := x1 + nI j) (by omega) hS (hR.frr hV) hB hl
    have hoj : sp_fin (sp_FF D (sp_lk D st.2.2.1 l) (fun k => sp_next D (sp_rt D st.2.2.2 k))) 600 0 (x1 + nI j) = o j := by rw [ho]
    rw [hoj] at f3
    have ih' := ih V3 (hV.tr f2)
    rw [q_X12_seeks_44, if_neg (by rw [nI_leI (by omega) (by omega)]; omega), pk_ck hS.1, f1, pk_bs, f3]
    rcases hc' : o j with _ | h'
    · rw [sp_ss_n hc'] at ih'
      rw [if_pos (show sp_pI none 0 = (-1 : Int32) from rfl), q_X12_seeks_102, show nI j + 1 = nI (j + 1) from nI_add j 1]
      exact ih'
    · rw [sp_ss_s hc'] at ih'
      have hb := hob j h' hc'
      have e1 : ¬ sp_pI (some h') 0 = (-1 : Int32) := fun q => (pk_eqm1 (a := h'.1 + 1) (by omega)).mp q
      rw [if_neg e1]
      show ∃ V', (if nI (h'.1 + 1) ≤ nI (sp_ss o j).2.2 then q_X12_seeks_100 N Y (q_X12_seeks_44 N Y fu) V3 r x1 (nI m) (nI l) (nI c) (nI (sp_ss o j).1 + nI 1) (nI (sp_ss o j).2.1 + nI (h'.1 + 1)) (nI j) (nI (sp_ss o j).2.2) else q_X12_seeks_100 N Y (q_X12_seeks_44 N Y fu) V3 r x1 (nI m) (nI l) (nI c) (nI (sp_ss o j).1 + nI 1) (nI (sp_ss o j).2.1 + nI (h'.1 + 1)) (nI j) (nI (h'.1 + 1))) = _ ∧ _
      simp (disch := omega) only [nI_leI, nI_add, q_X12_seeks_100, q_X12_seeks_102, pk_lit]
      have ih'' : ∃ V', q_X12_seeks_44 N Y fu V3 r x1 (nI m) (nI l) (nI c) (nI ((sp_ss o j).1 + 1)) (nI ((sp_ss o j).2.1 + (h'.1 + 1))) (nI (max (sp_ss o j).2.2 (h'.1 + 1))) (nI (j + 1)) = some (nI (sp_s3 (sp_ss o m) c), V') ∧ pk_frR r V V' := ih'
      by_cases c2 : h'.1 + 1 ≤ (sp_ss o j).2.2
      · rw [if_pos c2]
        rw [Nat.max_eq_left c2] at ih''
        exact ih''
      · rw [if_neg c2]
        rw [Nat.max_eq_right (by omega)] at ih''
        exact ih''
theorem st_35 (hN : 20000 ≤ N) (hI : pk_IA z Y V) : bk_st35 N z (z + 58) (z + 86) Y V x1 x2 x3 x4 x5 (pk_IA z) := by
  obtain ⟨t, u, s, D, P, T, tl, st, hs, img, pl, fp, r0, r1, hJ, hR, hB, hC, hRA, hBA⟩ := hI.e
  obtain ⟨hM, hS, hz, hT, hs5, -⟩ := hJ.o
  have hl := sp_l_lt (x := x3)
  have hlk := sp_lk_lt (md := st.2.2.1) (l := sp_l x3) hB.1
  unfold bk_st35
  rw [pk_bl]
  rcases pk_ix2 x4 (n := 3) (by omega) with hx | ⟨c, hc, rfl⟩
  · have ho : ¬ (nI 0 ≤ x4 ∧ x4 ≤ nI 2) := pk_out hx (by omega) (by omega)
    refine ⟨.inl 1, ?_, (fun e he => by cases he; exact Or.inl rfl), pk_stT hC hRA hBA rfl (k := 1) (by decide) (v := nI 0) (fun Y1 V1 h1 h2 => ⟨_, ?_, pk_frR.rf⟩)⟩
    · simp only [q_X11_seeks, pc_isWithin, pk_bs, pk_lit, pc_needE]
      rw [if_neg ho, pk_bdxL]
    · simp only [q_X12_seeks, h1, pk_ckT, eq_self, pk_letE, pk_lit]
      rw [pr_isWhat h1 pk_w0, pk_bd2E, if_neg ho, pk_Bf ho, if_pos rfl]
  · have hin : nI 0 ≤ nI c ∧ nI c ≤ nI 2 := pk_inn hc (by omega) rfl
    rcases pk_ix2 x2 (n := 31) (by omega) with hx | ⟨m, hm, rfl⟩
    · have hw : ¬ (nI 0 ≤ x2 ∧ x2 ≤ nI 30) := pk_out hx (by omega) (by omega)
      refine ⟨.inl 2, ?_, (fun e he => by cases he; exact Or.inr rfl), pk_stT hC hRA hBA rfl (k := 2) (by decide) (v := nI 0) (fun Y1 V1 h1 h2 => ⟨_, ?_, pk_frR.rf⟩)⟩
      · simp only [q_X11_seeks, pc_isWithin, pk_bs, pk_lit, pc_needE, pc_needA]
        rw [if_pos hin, pk_bdxR, if_neg hw, pk_bdxL]
      · simp only [q_X12_seeks, h1, pk_ckT, eq_self, pk_letE, pk_lit]
        rw [pr_isWhat h1 pk_w0, pk_bd2E, if_pos hin, pk_Bt hin, if_neg (by decide), pr_within, pk_bs, pr_right h1 pk_w0 (Or.inr rfl), pk_bd2E, if_neg hw, pk_Bf hw, if_pos rfl]
    · have hw : nI 0 ≤ nI m ∧ nI m ≤ nI 30 := pk_inn hm (by omega) rfl
      obtain ⟨Y', V', f1, f2, f3⟩ := pc_ss39 (N := N) (m := m) (c := c) (x1 := x1) hN hJ hB hlk (by omega) hc rfl
      refine ⟨.inr (nI (sp_s3 (sp_ss (fun i => sp_fin (sp_FF D (sp_lk D st.2.2.1 (sp_l x3)) (fun k => sp_next D (sp_rt D st.2.2.2 k))) 600 0 (x1 + nI i)) m) c), Y', V'), ?_, (fun e he => by cases he), pk_stQ hC hRA hBA ⟨⟨t, u, s, f3⟩, f2⟩ rfl (fun Y1 V1 h1 h2 => ?_)⟩
      · simp only [q_X11_seeks, pc_isWithin, pk_bs, pk_lit, pc_needE, pc_needA]
        rw [if_pos hin, pk_bdxR, if_pos hw, pk_bdxR, pk_ck hM.1, pc_lk (by omega) hJ hB hl, pk_bs]
        exact f1
      · have h3 : pk_JR (z + 58) (bk_wI V1 (z + 58) 0 (nI 0)) D P T tl st hs img pl fp r0 r1 := pk_JR.w0 h2
        obtain ⟨V3, a1, a2⟩ := pr_ss44 (N := N) (m := m) (c := c) (x1 := x1) hN h1 h3 hB hl (by omega) hc rfl
        refine ⟨V3, ?_, a2⟩
        simp only [q_X12_seeks, h1, pk_ckT, eq_self, pk_letE, pk_lit]
        rw [pr_isWhat h1 pk_w0, pk_bd2E, if_pos hin, pk_Bt hin, if_neg (by decide), pr_within, pk_bs, pr_right h1 pk_w0 (Or.inr rfl), pk_bd2E, if_pos hw, pk_Bt hw, if_neg (by decide)]
        exact a1
end
