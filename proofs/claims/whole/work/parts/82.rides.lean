/-! ride, rides: the steps -/
section
variable {N z t u s tl r a b c d k n j h m l p q0 md wa s' i f : Nat} {Y Y' : bk_Lay} {V V' V2 W : bk_Val} {x y x1 x2 x3 x4 x5 : Int32} {w1 w2 : Int64} {D : Nat → Nat → Nat} {P : Nat → List Nat} {T T' w : Nat → Nat} {st st' g : pk_St} {hs hs' : List pk_St} {img img' : Option (pk_St × List pk_St)} {pl : Option (Nat → Nat)} {fp r0 r1 : Int32} {A B : pk_A}
theorem st_26 (hN : 20000 ≤ N) (hI : pk_IA z Y V) : bk_st26 N z (z + 58) (z + 86) Y V x1 x2 x3 x4 x5 (pk_IA z) := by
  obtain ⟨t, u, s, D, P, T, tl, st, hs, img, pl, fp, r0, r1, hJ, hR, hB, hC, hRA, hBA⟩ := hI.e
  obtain ⟨hM, hS, hz, hT, hs5, -⟩ := hJ.o
  rcases pk_ix2 x2 (n := 2) (by omega) with hx | ⟨w, hw, rfl⟩
  · have q := pk_out (m := 1) hx (by decide) (by decide)
    refine ⟨.inl 1, ?_, (fun e he => by cases he; exact Or.inl rfl), pk_stT hC hRA hBA rfl (k := 1) (by decide) (v := nI 0) (fun Y1 V1 h1 h2 => ⟨_, ?_, pk_frR.rf⟩)⟩
    · simp only [q_X11_ride, pc_isWithin, pk_bs, pk_lit, pc_needE]
      rw [if_neg q, pk_bdxL]
    · simp only [q_X12_ride, h1, pk_ckT, eq_self, pk_letE, pk_lit]
      rw [pr_isWhat h1 pk_w0, pk_bd2E, pk_Bf q, if_pos rfl, if_neg q]
  · have qw := pk_inn (m := 1) hw (by decide) rfl
    rcases pk_ix2 x1 (n := 61) (by omega) with hx | ⟨j, hj, rfl⟩
    · have q := pk_out (m := 60) hx (by decide) (by decide)
      refine ⟨.inl 2, ?_, (fun e he => by cases he; exact Or.inr rfl), pk_stT hC hRA hBA rfl (k := 2) (by decide) (v := nI 0) (fun Y1 V1 h1 h2 => ⟨_, ?_, pk_frR.rf⟩)⟩
      · simp only [q_X11_ride, pc_isWithin, pk_bs, pk_lit, pc_needE, pc_needA]
        rw [if_pos qw, pk_bdxR, if_neg q, pk_bdxL]
      · simp only [q_X12_ride, h1, pk_ckT, eq_self, pk_letE, pk_lit, pr_within, pk_bs]
        rw [pr_isWhat h1 pk_w0, pk_bd2E, pk_Bt qw, if_neg (by decide), if_pos qw, pr_right h1 pk_w0 (Or.inr rfl), pk_bd2E, if_neg q, pk_Bf q, if_pos rfl]
    · have qj := pk_inn (m := 60) hj (by decide) rfl
      obtain ⟨o, ho⟩ : ∃ o, o = sp_go D P (sp_lk D st.2.2.1 1) (1000 * D 0 4) st.2.1 (6 * j) 0 st.1 0 := ⟨_, rfl⟩
      obtain ⟨V1, e1, f1⟩ := pc_pumped (j := j) hN hJ hB (by omega)
      rw [← ho] at e1
      have hle : ∀ c, o = some c → c ≤ 360 := fun c hc => by
        rw [ho] at hc
        have := sp_go_le hc
        omega
      have hno : (pk_on o = -nI 1) = (o = none) := pk_onm1 (fun c hc => by have := hle c hc; omega)
      have hno2 : (pk_on (o.map (fun c => 6 * j + 3 * c)) = -nI 1) = (o = none) := by
        rw [pk_onm1]
        · apply propext
          cases o with
          | none => exact ⟨fun _ => rfl, fun _ => rfl⟩
          | some c => exact ⟨(fun q => by cases q), (fun q => by cases q)⟩
        · intro c hc
          cases o with
          | none => cases hc
          | some c' =>
            have h1 := hle c' rfl
            have h2 : 6 * j + 3 * c' = c := Option.some.inj hc
            omega
      refine ⟨.inr (if w = 0 then pk_on o else pk_on (o.map (fun c => 6 * j + 3 * c)), V1), ?_, (fun e he => by cases he), pk_stQ hC hRA hBA (pk_CA.fr hJ f1) rfl (fun Y1 V1 h1 h2 => ?_)⟩
      · simp (disch := omega) only [q_X11_ride, pc_isWithin, pk_bs, pk_lit, pc_needE, pc_needA, if_pos qw, pk_bdxR, if_pos qj, hM, pk_ckT, pk_bs, pk_letE, pk_bd2E, pk_bd3E, if_true, if_false, eq_self, not_true_eq_false, not_false_eq_true, true_and, and_true, Nat.not_lt_zero, Nat.zero_le, Nat.reduceEqDiff, Nat.reduceLT, Nat.reduceLeDiff, pk_ck, e1, nI_eq, hno]
        by_cases c0 : w = 0
        · rw [if_pos c0, if_pos c0]
        · rw [if_neg c0, if_neg c0]
          cases o with
          | none => rw [if_pos rfl]; rfl
          | some c =>
            rw [if_neg (by intro q; cases q)]
            show Option.bind (q_X11_minutesRidden N Y V1 (nI j) (nI c)) _ = _
            simp only [q_X11_minutesRidden, pk_lit, pk_mul, nI_add, pk_bs]
            rfl
      · have h3 : pk_JR (z + 58) (bk_wI V1 (z + 58) 0 (nI 0)) D P T tl st hs img pl fp r0 r1 := pk_JR.w0 h2
        obtain ⟨V2, e2, f2, e3⟩ := pr_ridesFor (N := N) (j := j) hN h1 h3 hB (by omega) ho
        refine ⟨V2, ?_, f2⟩
        simp only [q_X12_ride, h1, pk_ckT, eq_self, pk_letE, pk_lit, pr_within, pk_bs]
        rw [pr_isWhat h1 pk_w0, pk_bd2E, pk_Bt qw, if_neg (by decide), if_pos qw, pr_right h1 pk_w0 (Or.inr rfl), pk_bd2E, if_pos qj, pk_Bt qj, if_neg (by decide), e2, pk_bd2E]
        simp (disch := omega) only [hno2, nI_eq]
        cases o with
        | none =>
          rw [if_pos rfl]
          by_cases c0 : w = 0
          · rw [if_pos c0]; rfl
          · rw [if_neg c0]
        | some c =>
          rw [if_neg (by intro q; cases q), e3 c rfl]
          by_cases c0 : w = 0
          · rw [if_neg (by omega), if_pos c0]; rfl
          · rw [if_pos (by omega), if_neg c0]
/-! rides -/
theorem sp_pr_no (h : s = 0 ∨ 10003 ∉ P 0) (m m' : Nat) : ∀ k, sp_pr D P s p m l k = sp_pr D P s p m' l k
  | 0 => rfl
  | k + 1 => by
    rw [sp_pr, sp_pr, sp_pr_no h m m' k, sp_gone_no h (m + k) (m' + k)]
def sp_ls (D : Nat → Nat → Nat) (P : Nat → List Nat) (s f m n : Nat) : Bool := decide (∀ i, i < n → 10000 ≤ sp_pr D P s f m 1 (i + 1))
theorem sp_ls_no (h : s = 0 ∨ 10003 ∉ P 0) (m m' : Nat) : sp_ls D P s f m n = sp_ls D P s f m' n := by
  unfold sp_ls
  apply decide_eq_decide.mpr
  constructor
  · intro q i hi; rw [sp_pr_no h m' m]; exact q i hi
  · intro q i hi; rw [sp_pr_no h m m']; exact q i hi
theorem pc_lasts (hN : 20000 ≤ N) (hS : pk_Sd Y t) (hT : pk_CT V t D P) (hB : pk_DB D P) (ha : a < 64) (hn : n ≤ 360) (hf : f = 1000 * D 0 4) : ∃ V2, q_X5_lasts N Y V t (nI a) (nI n) (nI m) = some (pk_B (sp_ls D P a f m n = true), V2) ∧ pk_fr t V V2 := by
  have b5 := hB.2.2.2.2.1.2
  have hfl : f ≤ 100000 := by omega
  have L := loop_i (σ := bk_Val) (fun fu i W => ∃ V2, q_X5_lasts_9 N Y fu W t (nI a) (nI n) (nI m) (nI (sp_pr D P a f m 1 i)) (nI i) = some (pk_B (sp_ls D P a f m n = true), V2) ∧ pk_fr t V V2)
    (fun i W => pk_fr t V W ∧ ∀ k, k < i → 10000 ≤ sp_pr D P a f m 1 (k + 1)) n ?_ ?_ N 0 V (by omega) (by omega) ⟨pk_fr.rf, fun k hk => by omega⟩
  · obtain ⟨V2, e1, f1⟩ := L
    refine ⟨V2, ?_, f1⟩
    simp only [q_X5_lasts, hS, pk_ckT, pk_bs, pk_letE, pk_bd2E, pk_bd3E, if_true, if_false, eq_self, not_true_eq_false, not_false_eq_true, true_and, and_true, Nat.not_lt_zero, Nat.zero_le, Nat.reduceEqDiff, Nat.reduceLT, Nat.reduceLeDiff, pk_ck, pc_full hS hT, pk_lit, ← hf]
    exact e1
  · intro fu W hW
    refine ⟨W, ?_, hW.1⟩
    rw [q_X5_lasts_9]
    simp (disch := omega) only [nI_leI, Nat.le_refl, pk_ckT, pk_bs, pk_letE, pk_bd2E, pk_bd3E, if_true, if_false, eq_self, not_true_eq_false, not_false_eq_true, true_and, and_true, Nat.not_lt_zero, Nat.zero_le, Nat.reduceEqDiff, Nat.reduceLT, Nat.reduceLeDiff, pk_ck, pk_lit]
    rw [pk_Bt (show sp_ls D P a f m n = true from decide_eq_true hW.2)]
  · intro fu i W hi hW ih
    have hpi : sp_pr D P a f m 1 i ≤ 100000 := Nat.le_trans (sp_pr_le i) hfl
    obtain ⟨V2, e1, f1⟩ := pc_goneBy (N := N) (s := a) (p := sp_pr D P a f m 1 i) (m := m + i) (l := 1) (by omega) hS (hT.fr hW.1) hB (by omega) hpi (by omega)
    have hg := sp_gone_le (D := D) (P := P) (s := a) (p := sp_pr D P a f m 1 i) (m := m + i) (l := 1)
    have e5 : sp_pr D P a f m 1 i - sp_gone D P a (sp_pr D P a f m 1 i) (m + i) 1 = sp_pr D P a f m 1 (i + 1) := rfl
    have hle := sp_pr_le (D := D) (P := P) (s := a) (p := f) (m := m) (l := 1) (i + 1)
    rw [q_X5_lasts_9]
    simp (disch := omega) only [hS, pk_ckT, pk_bs, pk_letE, pk_bd2E, pk_bd3E, if_true, if_false, eq_self, not_true_eq_false, not_false_eq_true, true_and, and_true, Nat.not_lt_zero, Nat.zero_le, Nat.reduceEqDiff, Nat.reduceLT, Nat.reduceLeDiff, pk_ck, pk_lit, nI_add, e1, pk_sub, e5, nI_leI]
    rw [if_neg (by omega)]
    by_cases c : 10000 ≤ sp_pr D P a f m 1 (i + 1)
    · rw [if_pos c]
      refine ih V2 ⟨hW.1.tr f1, fun k hk => ?_⟩
      by_cases e : k = i
      · rw [e]; exact c
      · exact hW.2 k (by omega)
    · rw [if_neg c]
      refine ⟨V2, ?_, hW.1.tr f1⟩
      rw [pk_Bf (show ¬ sp_ls D P a f m n = true from fun q => c ((of_decide_eq_true q) i hi))]
def sp_rf (D : Nat → Nat → Nat) (P : Nat → List Nat) (s f m n : Nat) : Nat → Bool := fun i => !sp_ls D P s f (m + i * n) n
def sp_rs (o : Option Nat) : Nat := match o with
  | none => 100
  | some k => k
theorem pc_rides (hN : 20000 ≤ N) (hJ : pk_JC z Y V t u s D P T tl st hs img pl fp r0 r1) (hB : pk_JB D P T tl st hs img) (hj : 1 ≤ j) (hj2 : j ≤ 60) (ha : a = sp_lk D st.2.2.1 1) (hf : f = 1000 * D 0 4) : ∃ V2, q_X11_rides N Y V z (nI j) = some (.inr (nI (sp_rs (sp_find (sp_rf D P a f st.2.1 (6 * j)) 0 100)), V2)) ∧ pk_fr t V V2 := by
  obtain ⟨hM, hS, hz, hT, hs5, -⟩ := hJ.o
  have hn := hJ.ne
  have hrg := hJ.2.2.2.2.2.1.hd.1.1
  have hlk := sp_lk_lt (md := st.2.2.1) (l := 1) hB.1
  have elk := pc_lk (N := N) (l := 1) (by omega) hJ hB (by omega)
  rw [← ha] at hlk elk
  have L := loop_i (σ := bk_Val) (fun fu i W => ∃ V2, q_X11_rides_24 N Y fu W z (nI a) (nI (6 * j)) (nI i) = some (.inr (nI (sp_rs (sp_find (sp_rf D P a f st.2.1 (6 * j)) i (100 - i))), V2)) ∧ pk_fr t V V2)
    (fun i W => pk_fr t V W) 100 ?_ ?_ N 0 V (by omega) (by omega) pk_fr.rf
  · obtain ⟨V2, e1, f1⟩ := L
    refine ⟨V2, ?_, f1⟩
    simp only [q_X11_rides, pc_isWithin, pk_bs, pk_lit, pc_needA]
    rw [if_pos ⟨nI_le (by omega) (by omega), nI_le (by omega) (by omega)⟩, pk_bdxR]
    simp only [hM, pk_ckT, pk_bs, pk_letE, pk_bd2E, pk_bd3E, if_true, if_false, eq_self, not_true_eq_false, not_false_eq_true, true_and, and_true, Nat.not_lt_zero, Nat.zero_le, Nat.reduceEqDiff, Nat.reduceLT, Nat.reduceLeDiff, pk_ck, elk, pk_mul]
    exact e1
  · intro fu W hW
    refine ⟨W, ?_, hW⟩
    rw [q_X11_rides_24]
    simp (disch := omega) only [nI_leI, Nat.le_refl, pk_ckT, pk_bs, pk_letE, pk_bd2E, pk_bd3E, if_true, if_false, eq_self, not_true_eq_false, not_false_eq_true, true_and, and_true, Nat.not_lt_zero, Nat.zero_le, Nat.reduceEqDiff, Nat.reduceLT, Nat.reduceLeDiff, pk_ck, pk_lit]
    rfl
  · intro fu i W hi hW ih
    have rs : bk_rI W s 2 = nI st.2.1 := by
      rw [← hs5.2.2.1]
      exact congrFun (hW.2 s (by omega) (by omega) (by omega)) 2
    obtain ⟨V2, e1, f1⟩ := pc_lasts (N := N) (a := a) (n := 6 * j) (m := st.2.1 + i * (6 * j)) hN hS (hT.fr hW) hB.1 hlk (by omega) hf
    have e3 := pc_alike (N := N) (by omega) hS ((hT.fr hW).fr f1) hB.1 hlk
    rw [q_X11_rides_24]
    simp (disch := omega) only [hM, hz, hS, hs5, pk_ckT, pk_bs, pk_letE, pk_bd2E, pk_bd3E, if_true, if_false, eq_self, not_true_eq_false, not_false_eq_true, true_and, and_true, Nat.not_lt_zero, Nat.zero_le, Nat.reduceEqDiff, Nat.reduceLT, Nat.reduceLeDiff, pk_ck, rs, pk_lit, pk_mul, nI_add, e1, e3, pk_B0, nI_leI]
    rw [if_neg (by omega), show 100 - i = (100 - (i + 1)) + 1 by omega, sp_find]
    by_cases c : sp_ls D P a f (st.2.1 + i * (6 * j)) (6 * j) = true
    · rw [if_neg (fun q => q c), if_neg (show ¬ sp_rf D P a f st.2.1 (6 * j) i = true by unfold sp_rf; rw [c]; decide)]
      by_cases c2 : a = 0 ∨ 10003 ∉ P 0
      · rw [if_neg (fun q => q c2)]
        refine ⟨V2, ?_, hW.tr f1⟩
        rw [sp_find_none]
        · rfl
        · intro k h1 h2
          unfold sp_rf
          rw [sp_ls_no c2 (st.2.1 + k * (6 * j)) (st.2.1 + i * (6 * j)), c]
          rfl
      · rw [if_pos c2]
        exact ih V2 (hW.tr f1)
    · rw [if_pos c, if_pos (show sp_rf D P a f st.2.1 (6 * j) i = true by unfold sp_rf; rw [Bool.not_eq_true] at c; rw [c]; rfl)]
      exact ⟨V2, rfl, hW.tr f1⟩
theorem pr_rides (hN : 20000 ≤ N) (hS : pk_Rf Y r) (hR : pk_JR r V D P T tl st hs img pl fp r0 r1) (hB : pk_JB D P T tl st hs img) (hj : 1 ≤ j) (hj2 : j ≤ 60) (ha : a = sp_lk D st.2.2.1 1) (hf : f = 1000 * D 0 4) : ∃ V2, q_X12_rides N Y V r (nI j) = some (nI (sp_rs (sp_find (sp_rf D P a f st.2.1 (6 * j)) 0 100)), V2) ∧ pk_frR r (bk_wI V r 0 (nI 0)) V2 := by
  have b5 := hB.1.2.2.2.2.1.2
  have hlk := sp_lk_lt (md := st.2.2.1) (l := 1) hB.1
  have h3 := hR.w0 (x := nI 0)
  have elk := pr_lk (N := N) (l := 1) (by omega) hS h3 hB (by omega)
  rw [← ha] at hlk elk
  have hfl : f ≤ 100000 := by omega
  have q : nI 1 ≤ nI j ∧ nI j ≤ nI 60 := ⟨nI_le (by omega) (by omega), nI_le (by omega) (by omega)⟩
  have L := loop_i (σ := bk_Val) (fun fu i W => ∃ V2, q_X12_rides_33 N Y fu W r (nI j) (nI a) (nI (i * (6 * j))) (nI i) = some (nI (sp_rs (sp_find (sp_rf D P a f st.2.1 (6 * j)) i (100 - i))), V2) ∧ pk_frR r (bk_wI V r 0 (nI 0)) V2)
    (fun i W => pk_frR r (bk_wI V r 0 (nI 0)) W) 100 ?_ ?_ N 0 (bk_wI V r 0 (nI 0)) (by omega) (by omega) pk_frR.rf
  · obtain ⟨V2, e1, f1⟩ := L
    refine ⟨V2, ?_, f1⟩
    rw [Nat.zero_mul] at e1
    simp only [q_X12_rides, hS, pk_ckT, eq_self, pk_letE, pk_lit, pr_within, pk_bs]
    rw [pr_right hS pk_w0 (Or.inl rfl), pk_bd2E, if_pos q, pk_Bt q, if_neg (by decide), elk, pk_bs]
    exact e1
  · intro fu W hW
    refine ⟨W, ?_, hW⟩
    rw [q_X12_rides_33]
    simp (disch := omega) only [nI_leI, Nat.le_refl, pk_ckT, pk_bs, pk_letE, pk_bd2E, pk_bd3E, if_true, if_false, eq_self, not_true_eq_false, not_false_eq_true, true_and, and_true, Nat.not_lt_zero, Nat.zero_le, Nat.reduceEqDiff, Nat.reduceLT, Nat.reduceLeDiff, pk_ck, pk_lit]
    rfl
  · intro fu i W hi hW ih
    have h5 : bk_rI W r 5 = nI (D 0 4) := (h3.frr hW).1.1.2.2.2.2.1
    rw [q_X12_rides_33]
    simp (disch := omega) only [hS, pk_ckT, pk_bs, pk_letE, pk_bd2E, pk_bd3E, if_true, if_false, eq_self, not_true_eq_false, not_false_eq_true, true_and, and_true, Nat.not_lt_zero, Nat.zero_le, Nat.reduceEqDiff, Nat.reduceLT, Nat.reduceLeDiff, pk_ck, h5, pk_lit, pk_mul, nI_leI, ← hf]
    rw [if_neg (by omega), show 100 - i = (100 - (i + 1)) + 1 by omega, sp_find]
    refine loop_i (σ := bk_Val) (fun fu2 k W2 => ∃ V2, q_X12_rides_53 N Y (q_X12_rides_33 N Y fu) fu2 W2 r (nI j) (nI a) (nI (i * (6 * j) + k)) (nI i) (nI (sp_pr D P a f (st.2.1 + i * (6 * j)) 1 k)) (nI k) = some (nI (sp_rs (if sp_rf D P a f st.2.1 (6 * j) i then some i else sp_find (sp_rf D P a f st.2.1 (6 * j)) (i + 1) (100 - (i + 1)))), V2) ∧ pk_frR r (bk_wI V r 0 (nI 0)) V2)
      (fun k W2 => pk_frR r (bk_wI V r 0 (nI 0)) W2 ∧ ∀ q, q < k → 10000 ≤ sp_pr D P a f (st.2.1 + i * (6 * j)) 1 (q + 1)) (6 * j) ?_ ?_ N 0 W (by omega) (by omega) ⟨hW, fun q hq => by omega⟩
    · intro fu2 W2 hW2
      have c : sp_ls D P a f (st.2.1 + i * (6 * j)) (6 * j) = true := decide_eq_true hW2.2
      rw [q_X12_rides_53, if_neg (show ¬ sp_rf D P a f st.2.1 (6 * j) i = true by unfold sp_rf; rw [c]; decide)]
      simp (disch := omega) only [pk_lit, pk_mul, nI_leI, Nat.le_refl, if_true, nI_add]
      have ih2 := ih W2 hW2.1
      rw [Nat.add_mul, Nat.one_mul] at ih2
      exact ih2
    · intro fu2 k W2 hk hW2 ih2
      have hpi : sp_pr D P a f (st.2.1 + i * (6 * j)) 1 k ≤ 100000 := Nat.le_trans (sp_pr_le k) hfl
      have h59 : bk_rI W2 r 59 = nI st.2.1 := (h3.frr hW2.1).2.2.1.2.1
      obtain ⟨V2, e1, f1⟩ := pr_goneBy (N := N) (s := a) (p := sp_pr D P a f (st.2.1 + i * (6 * j)) 1 k) (m := st.2.1 + (i * (6 * j) + k)) (l := 1) (by omega) hS (h3.1.fr hW2.1) hB.1 (by omega) hpi (by omega)
      have hg := sp_gone_le (D := D) (P := P) (s := a) (p := sp_pr D P a f (st.2.1 + i * (6 * j)) 1 k) (m := st.2.1 + (i * (6 * j) + k)) (l := 1)
      have e5 : sp_pr D P a f (st.2.1 + i * (6 * j)) 1 k - sp_gone D P a (sp_pr D P a f (st.2.1 + i * (6 * j)) 1 k) (st.2.1 + (i * (6 * j) + k)) 1 = sp_pr D P a f (st.2.1 + i * (6 * j)) 1 (k + 1) := by
        rw [← Nat.add_assoc]; rfl
      have hle := sp_pr_le (D := D) (P := P) (s := a) (p := f) (m := st.2.1 + i * (6 * j)) (l := 1) (k + 1)
      rw [q_X12_rides_53]
      simp (disch := omega) only [pk_lit, pk_mul, nI_leI]
      rw [if_neg (by omega)]
      simp (disch := omega) only [hS, pk_ckT, pk_bs, pk_letE, pk_bd2E, pk_bd3E, if_true, if_false, eq_self, not_true_eq_false, not_false_eq_true, true_and, and_true, Nat.not_lt_zero, Nat.zero_le, Nat.reduceEqDiff, Nat.reduceLT, Nat.reduceLeDiff, pk_ck, h59, pk_lit, nI_add, e1, pk_sub, e5, nI_leI]
      by_cases c : 10000 ≤ sp_pr D P a f (st.2.1 + i * (6 * j)) 1 (k + 1)
      · rw [if_pos c]
        refine ih2 V2 ⟨hW2.1.tr f1, fun q hq => ?_⟩
        by_cases e : q = k
        · rw [e]; exact c
        · exact hW2.2 q (by omega)
      · rw [if_neg c]
        refine ⟨V2, ?_, hW2.1.tr f1⟩
        have c2 : sp_ls D P a f (st.2.1 + i * (6 * j)) (6 * j) = false := decide_eq_false (fun q => c (q k hk))
        rw [if_pos (show sp_rf D P a f st.2.1 (6 * j) i = true by unfold sp_rf; rw [c2]; rfl)]
        rfl
theorem st_41 (hN : 20000 ≤ N) (hI : pk_IA z Y V) : bk_st41 N z (z + 58) (z + 86) Y V x1 x2 x3 x4 x5 (pk_IA z) := by
  obtain ⟨t, u, s, D, P, T, tl, st, hs, img, pl, fp, r0, r1, hJ, hR, hB, hC, hRA, hBA⟩ := hI.e
  by_cases q : nI 1 ≤ x1 ∧ x1 ≤ nI 60
  · obtain ⟨j, hj2, rfl⟩ := pk_wnx (x := x1) (n := 60) ⟨Int32.le_trans (by decide) q.1, q.2⟩ (by decide)
    have hj : 1 ≤ j := (nI_leI (by omega) (by omega)).mp q.1
    obtain ⟨V1, e1, f1⟩ := pc_rides (j := j) hN hJ hB hj hj2 rfl rfl
    exact ⟨.inr (nI (sp_rs (sp_find (sp_rf D P (sp_lk D st.2.2.1 1) (1000 * D 0 4) st.2.1 (6 * j)) 0 100)), V1), e1, (fun e he => by cases he), pk_stQ hC hRA hBA (pk_CA.fr hJ f1) rfl (fun Y1 V1 h1 h2 => pr_rides hN h1 h2 hB hj hj2 rfl rfl)⟩
  · refine ⟨.inl 2, ?_, (fun e he => by cases he; rfl), pk_stT hC hRA hBA rfl (k := 1) (by decide) (v := nI 0) (fun Y1 V1 h1 h2 => ⟨_, ?_, pk_frR.rf⟩)⟩
    · simp only [q_X11_rides, pc_isWithin, pk_bs, pk_lit, pc_needA]
      rw [if_neg q, pk_bdxL]
    · simp only [q_X12_rides, h1, pk_ckT, eq_self, pk_letE, pk_lit, pr_within, pk_bs]
      rw [pr_right h1 pk_w0 (Or.inl rfl), pk_bd2E, if_neg q, pk_Bf q, if_pos rfl]
end
