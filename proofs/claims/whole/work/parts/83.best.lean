/-! best -/
section
variable {N z t u s tl r a b c d k n j h m l p q0 md wa s' i f : Nat} {Y Y' : bk_Lay} {V V' V2 W : bk_Val} {x y x1 x2 x3 x4 x5 : Int32} {w1 w2 : Int64} {D : Nat → Nat → Nat} {P : Nat → List Nat} {T T' w : Nat → Nat} {st st' g : pk_St} {hs hs' : List pk_St} {img img' : Option (pk_St × List pk_St)} {pl : Option (Nat → Nat)} {fp r0 r1 : Int32} {A B : pk_A}
def sp_ga (D : Nat → Nat → Nat) (P : Nat → List Nat) (s c d o : Nat) : Nat → Option Nat
  | 0 => some 0
  | h + 1 => match sp_ga D P s c d o h with
    | none => none
    | some v => if sp_bit s h then (match sp_glue D P h c d o with
      | none => none
      | some g => some (v + g)) else some v
theorem sp_ga_none (h : sp_ga D P s c d p i = none) : ∀ k, sp_ga D P s c d p (i + k) = none
  | 0 => h
  | k + 1 => by
    show sp_ga D P s c d p (i + k + 1) = none
    rw [sp_ga, sp_ga_none h k]
theorem sp_glue_le {v q : Nat} (h : sp_glue D P q c d p = some v) : v ≤ 60 := by
  have := sp_find_lt h
  omega
theorem sp_ga_le : ∀ {i v : Nat}, sp_ga D P s c d p i = some v → v ≤ 60 * i
  | 0, v, h => by cases h; omega
  | i + 1, v, h => by
    rw [sp_ga] at h
    cases h1 : sp_ga D P s c d p i with
    | none => rw [h1] at h; cases h
    | some v' =>
      have h2 := sp_ga_le h1
      rw [h1] at h
      simp only at h
      by_cases cc : sp_bit s i
      · rw [if_pos cc] at h
        cases h3 : sp_glue D P i c d p with
        | none => rw [h3] at h; cases h
        | some g =>
          have := sp_glue_le h3
          rw [h3] at h
          cases h
          omega
      · rw [if_neg cc] at h
        cases h
        omega
theorem pc_ga (hN : 20000 ≤ N) (hS : pk_Sd Y t) (hT : pk_CT V t D P) (hB : pk_DB D P) (ha : a < 64) (hp : p ≤ 100) : ∃ V2, q_X5_glueForAll N Y V t (nI a) (nI c) (nI d) (nI p) = some (pk_on (sp_ga D P a c d p (D 2 0)), V2) ∧ pk_fr t V V2 := by
  have b1 : D 2 0 ≤ 6 := hB.2.2.2.2.2.2.2.2.2.1
  refine loop_i (σ := bk_Val × Nat) (fun fu i W => ∃ V2, q_X5_glueForAll_6 N Y fu W.1 t (nI a) (nI c) (nI d) (nI p) (nI W.2) (nI i) = some (pk_on (sp_ga D P a c d p (D 2 0)), V2) ∧ pk_fr t V V2)
    (fun i W => pk_fr t V W.1 ∧ sp_ga D P a c d p i = some W.2) (D 2 0) ?_ ?_ N 0 (V, 0) (by omega) (by omega) ⟨pk_fr.rf, rfl⟩
  · intro fu W hW
    refine ⟨W.1, ?_, hW.1⟩
    simp (disch := omega) only [q_X5_glueForAll_6, hS, (hT.fr hW.1).2.2.1, pk_ckT, pk_bs, pk_letE, pk_bd2E, pk_bd3E, if_true, if_false, eq_self, not_true_eq_false, not_false_eq_true, true_and, and_true, Nat.not_lt_zero, Nat.zero_le, Nat.reduceEqDiff, Nat.reduceLT, Nat.reduceLeDiff, pk_ck, pk_lit, nI_add, pk_mul, nI_clamp, nI_leI, nI_ltI, nI_eq, pk_div, pk_remE, pk_inE, pk_sub, Nat.le_refl]
    rw [hW.2]
    rfl
  · intro fu i W hi hW ih
    have T1 := hT.fr hW.1
    rw [q_X5_glueForAll_6]
    simp (disch := omega) only [hS, T1.2.2.1, pk_ckT, pk_bs, pk_letE, pk_bd2E, pk_bd3E, if_true, if_false, eq_self, not_true_eq_false, not_false_eq_true, true_and, and_true, Nat.not_lt_zero, Nat.zero_le, Nat.reduceEqDiff, Nat.reduceLT, Nat.reduceLeDiff, pk_ck, pk_lit, nI_add, pk_mul, nI_clamp, nI_leI, nI_ltI, nI_eq, pk_div, pk_remE, pk_inE, pk_sub, pk_bitE]
    rw [if_neg (by omega)]
    have e : sp_ga D P a c d p (i + 1) = if sp_bit a i then (match sp_glue D P i c d p with
      | none => none
      | some g => some (W.2 + g)) else some W.2 := by rw [sp_ga, hW.2]
    by_cases cb : sp_bit a i
    · rw [if_pos cb]
      rw [if_pos cb] at e
      obtain ⟨V2, e1, f1⟩ := pc_glueFor (N := N) (c := c) (d := d) (by omega) hS T1 hB hi hp
      rw [e1, pk_bd2E]
      cases hg : sp_glue D P i c d p with
      | none =>
        rw [hg] at e
        rw [if_pos (show pk_on none = -nI 1 from rfl)]
        have := sp_ga_none (show sp_ga D P a c d p (i + 1) = none from e) (D 2 0 - (i + 1))
        rw [show i + 1 + (D 2 0 - (i + 1)) = D 2 0 by omega] at this
        rw [this]
        exact ⟨V2, rfl, hW.1.tr f1⟩
      | some v =>
        have hv := sp_glue_le hg
        rw [hg] at e
        rw [if_neg (show ¬ pk_on (some v) = -nI 1 by rw [pk_onm1 (fun k hk => by cases hk; omega)]; intro q; cases q), show pk_on (some v) = nI v from rfl]
        simp only [q_X5_glueForAll_55, pk_lit, nI_add]
        exact ih (V2, W.2 + v) ⟨hW.1.tr f1, e⟩
    · rw [if_neg cb]
      rw [if_neg cb] at e
      simp only [q_X5_glueForAll_55, pk_lit, nI_add]
      exact ih (W.1, W.2) ⟨hW.1, e⟩
theorem sp_lk_bit (hh : h < D 2 0) : sp_bit (sp_lk D md 1) h ↔ (¬ sp_bit md h ∧ (1 ≠ 0 ∨ D 6 h = 0)) := by
  unfold sp_lk
  rw [sp_set_bit, decide_eq_true_iff]
  exact ⟨fun q => q.2, fun q => ⟨hh, q⟩⟩
/-- which, in how many minutes; o: pumpings, q: glue -/
def sp_b1 (o : Option Nat) (j : Nat) : Nat × Nat := match o with
  | none => (2, 20 * j)
  | some c => if 20 * j < 6 * j + 3 * c then (2, 20 * j) else (1, 6 * j + 3 * c)
def sp_b2 (o q : Option Nat) (j : Nat) : Nat × Nat := match q with
  | none => sp_b1 o j
  | some v => if (sp_b1 o j).2 < 15 + 6 * j + v then sp_b1 o j else (0, 15 + 6 * j + v)
theorem sp_b1_le {o : Option Nat} (ho : ∀ c, o = some c → c ≤ 360) (hj : j ≤ 60) : (sp_b1 o j).2 ≤ 2000 := by
  unfold sp_b1
  cases o with
  | none => show 20 * j ≤ 2000; omega
  | some c =>
    have := ho c rfl
    simp only
    split
    · show 20 * j ≤ 2000; omega
    · show 6 * j + 3 * c ≤ 2000; omega
theorem pc_best (hN : 20000 ≤ N) (hJ : pk_JC z Y V t u s D P T tl st hs img pl fp r0 r1) (hB : pk_JB D P T tl st hs img) (hj : j ≤ 60) (hp : p ≤ 100) (hw : k < 2) {o q : Option Nat} (ho : o = sp_go D P (sp_lk D st.2.2.1 1) (1000 * D 0 4) st.2.1 (6 * j) 0 st.1 0) (hq : q = sp_ga D P (sp_lk D st.2.2.1 1) c d p (D 2 0)) : ∃ V2, q_X11_best_47 N Y V z (nI j) (nI c) (nI d) (nI p) (nI k) (nI 1) = some (.inr (nI (if k = 0 then (sp_b2 o q j).1 else (sp_b2 o q j).2), V2)) ∧ pk_fr t V V2 := by
  obtain ⟨hM, hS, hz, hT, hs5, -⟩ := hJ.o
  have b1 : D 2 0 ≤ 6 := hB.1.2.2.2.2.2.2.2.2.2.1
  have hlk := sp_lk_lt (md := st.2.2.1) (l := 1) hB.1
  obtain ⟨V1, e1, f1⟩ := pc_pumped (j := j) hN hJ hB hj
  rw [← ho] at e1
  have hle : ∀ c, o = some c → c ≤ 360 := fun c hc => by
    rw [ho] at hc
    have := sp_go_le hc
    omega
  have hqle : ∀ v, q = some v → v ≤ 360 := fun v hv => by
    rw [hq] at hv
    have := sp_ga_le hv
    omega
  have hno : (pk_on o = -nI 1) = (o = none) := pk_onm1 (fun c hc => by have := hle c hc; omega)
  have hnq : (pk_on q = -nI 1) = (q = none) := pk_onm1 (fun c hc => by have := hqle c hc; omega)
  have hJ1 := hJ.fr f1
  obtain ⟨-, -, -, hT1, -, -⟩ := hJ1.o
  have elk := pc_lk (N := N) (l := 1) (by omega) hJ1 hB (by omega)
  obtain ⟨V2, e2, f2⟩ := pc_ga (N := N) (a := sp_lk D st.2.2.1 1) (c := c) (d := d) hN hS hT1 hB.1 hlk hp
  rw [← hq] at e2
  have hb1 := sp_b1_le hle hj
  have fin : ∀ X : Nat × Nat, X = sp_b1 o j → q_X11_best_94 N Y V1 z (nI j) (nI c) (nI d) (nI p) (nI k) (nI X.1) (nI X.2) = some (.inr (nI (if k = 0 then (sp_b2 o q j).1 else (sp_b2 o q j).2), V2)) := by
    intro X hX
    rw [← hX] at hb1
    rw [q_X11_best_94]
    simp (disch := omega) only [hM, hz, hS, pk_ckT, pk_bs, pk_letE, pk_bd2E, pk_bd3E, if_true, if_false, eq_self, not_true_eq_false, not_false_eq_true, true_and, and_true, Nat.not_lt_zero, Nat.zero_le, Nat.reduceEqDiff, Nat.reduceLT, Nat.reduceLeDiff, pk_ck, pk_lit, elk, e2, hnq]
    unfold sp_b2
    rw [← hX]
    cases q with
    | none =>
      rw [if_pos rfl, q_X11_best_144]
      simp (disch := omega) only [pk_lit, nI_eq]
      by_cases c0 : k = 0
      · rw [if_pos c0, if_pos c0]
      · rw [if_neg c0, if_neg c0]
    | some v =>
      have hv := hqle v rfl
      rw [if_neg (by intro g; cases g), show pk_on (some v) = nI v from rfl]
      simp (disch := omega) only [pk_lit, pk_mul, nI_add, nI_ltI, q_X11_best_144, nI_eq, show v + 15 + 6 * j = 15 + 6 * j + v from by omega]
      by_cases c1 : X.2 < 15 + 6 * j + v
      · rw [if_pos c1, if_pos c1]
        by_cases c0 : k = 0
        · rw [if_pos c0, if_pos c0]
        · rw [if_neg c0, if_neg c0]
      · rw [if_neg c1, if_neg c1]
        by_cases c0 : k = 0
        · rw [if_pos c0, if_pos c0]
        · rw [if_neg c0, if_neg c0]
  refine ⟨V2, ?_, f1.tr f2⟩
  have e9 : q_X11_needArgument N Y V (nI 1) = some (.inr ()) := by
    rw [show nI 1 = pk_B True from rfl, pc_needA, if_pos trivial]
  rw [q_X11_best_47, e9, pk_bdxR]
  simp (disch := omega) only [hM, pk_ckT, pk_bs, pk_letE, pk_bd2E, pk_bd3E, if_true, if_false, eq_self, not_true_eq_false, not_false_eq_true, true_and, and_true, Nat.not_lt_zero, Nat.zero_le, Nat.reduceEqDiff, Nat.reduceLT, Nat.reduceLeDiff, pk_ck, e1, pk_lit, pk_mul, hno]
  cases o with
  | none =>
    rw [if_pos rfl]
    exact fin (2, 20 * j) rfl
  | some c' =>
    have hc' := hle c' rfl
    rw [if_neg (by intro g; cases g), show pk_on (some c') = nI c' from rfl]
    simp (disch := omega) only [q_X11_minutesRidden, pk_lit, pk_mul, nI_add, pk_bs, nI_ltI]
    by_cases c1 : 20 * j < 6 * j + 3 * c'
    · rw [if_pos c1]
      exact fin (2, 20 * j) (by show _ = if _ then _ else _; rw [if_pos c1])
    · rw [if_neg c1]
      exact fin (1, 6 * j + 3 * c') (by show _ = if _ then _ else _; rw [if_neg c1])
theorem pr_best (hN : 20000 ≤ N) (hS : pk_Rf Y r) (hR : pk_JR r V D P T tl st hs img pl fp r0 r1) (hB : pk_JB D P T tl st hs img) (hj : j ≤ 60) (hp : p ≤ 100) (hw : k < 2) {o q : Option Nat} (ho : o = sp_go D P (sp_lk D st.2.2.1 1) (1000 * D 0 4) st.2.1 (6 * j) 0 st.1 0) (hq : q = sp_ga D P (sp_lk D st.2.2.1 1) c d p (D 2 0)) : ∃ V2, q_X12_best_72 N Y N V r (nI j) (nI c) (nI d) (nI p) (nI k) (nI (15 + 6 * j)) (nI 0) = some (nI (if k = 0 then (sp_b2 o q j).1 else (sp_b2 o q j).2), V2) ∧ pk_frR r V V2 := by
  have b1 : D 2 0 ≤ 6 := hB.1.2.2.2.2.2.2.2.2.2.1
  have hle : ∀ c, o = some c → c ≤ 360 := fun c hc => by
    rw [ho] at hc
    have := sp_go_le hc
    omega
  have hqle : ∀ v, q = some v → v ≤ 360 := fun v hv => by
    rw [hq] at hv
    have := sp_ga_le hv
    omega
  have hb1 := sp_b1_le hle hj
  have last : ∀ W, pk_frR r V W → ∃ V2, q_X12_best_135 N Y W r (nI j) (nI k) (pk_on (q.map (fun v => 15 + 6 * j + v))) = some (nI (if k = 0 then (sp_b2 o q j).1 else (sp_b2 o q j).2), V2) ∧ pk_frR r V V2 := by
    intro W hW
    obtain ⟨V2, e2, f2, -⟩ := pr_ridesFor (N := N) (j := j) hN hS (hR.frr hW) hB hj ho
    refine ⟨V2, ?_, hW.tr f2⟩
    have hno2 : (pk_on (o.map (fun c => 6 * j + 3 * c)) = -nI 1) = (o = none) := by
      rw [pk_onm1]
      · apply propext
        cases o with
        | none => exact ⟨fun _ => rfl, fun _ => rfl⟩
        | some c => exact ⟨(fun q => by cases q), (fun q => by cases q)⟩
      · intro c hc
        cases o with
        | none => cases hc
        | some c' =>
          have h1 := hle c' rfl
          have h2 : 6 * j + 3 * c' = c := Option.some.inj hc
          omega
    have fin : ∀ X : Nat × Nat, X = sp_b1 o j → q_X12_best_171 N Y V2 (nI k) (pk_on (q.map (fun v => 15 + 6 * j + v))) (nI X.1) (nI X.2) = some (nI (if k = 0 then (sp_b2 o q j).1 else (sp_b2 o q j).2), V2) := by
      intro X hX
      rw [← hX] at hb1
      rw [q_X12_best_171]
      unfold sp_b2
      rw [← hX]
      cases q with
      | none =>
        rw [if_pos (show pk_on (Option.map _ none) = -1 from rfl), q_X12_best_191]
        simp (disch := omega) only [pk_lit, nI_eq]
        by_cases c0 : k = 0
        · rw [if_pos c0, if_pos c0]
        · rw [if_neg c0, if_neg c0]
      | some v =>
        have hv := hqle v rfl
        have hne : ¬ nI (15 + 6 * j + v) = -nI 1 := fun g => by rw [pk_eqm1 (by omega)] at g; exact g
        show (if nI (15 + 6 * j + v) = -nI 1 then _ else if nI X.2 < nI (15 + 6 * j + v) then _ else q_X12_best_191 N Y V2 (nI k) 0 (nI (15 + 6 * j + v))) = _
        rw [if_neg hne]
        simp (disch := omega) only [pk_lit, nI_ltI, q_X12_best_191, nI_eq]
        by_cases c1 : X.2 < 15 + 6 * j + v
        · rw [if_pos c1, if_pos c1]
          by_cases c0 : k = 0
          · rw [if_pos c0, if_pos c0]
          · rw [if_neg c0, if_neg c0]
        · rw [if_neg c1, if_neg c1]
          by_cases c0 : k = 0
          · rw [if_pos c0, if_pos c0]
          · rw [if_neg c0, if_neg c0]
    rw [q_X12_best_135]
    simp only [hS, pk_ckT, pk_bs, pk_letE, pk_bd2E, pk_bd3E, if_true, if_false, eq_self, not_true_eq_false, not_false_eq_true, true_and, and_true, Nat.not_lt_zero, Nat.zero_le, Nat.reduceEqDiff, Nat.reduceLT, Nat.reduceLeDiff, pk_ck, e2, pk_lit, hno2, pk_mul]
    cases o with
    | none =>
      rw [if_pos rfl]
      exact fin (2, 20 * j) rfl
    | some c' =>
      have hc' := hle c' rfl
      rw [if_neg (by intro g; cases g), show pk_on (Option.map (fun c => 6 * j + 3 * c) (some c')) = nI (6 * j + 3 * c') from rfl]
      simp (disch := omega) only [nI_ltI]
      by_cases c1 : 20 * j < 6 * j + 3 * c'
      · rw [if_pos c1]
        exact fin (2, 20 * j) (by show _ = if _ then _ else _; rw [if_pos c1])
      · rw [if_neg c1]
        exact fin (1, 6 * j + 3 * c') (by show _ = if _ then _ else _; rw [if_neg c1])
  have L := loop_i (σ := bk_Val × Nat) (fun fu i W => ∃ V2, q_X12_best_72 N Y (fu + 1) W.1 r (nI j) (nI c) (nI d) (nI p) (nI k) (nI (15 + 6 * j + W.2)) (nI i) = some (nI (if k = 0 then (sp_b2 o q j).1 else (sp_b2 o q j).2), V2) ∧ pk_frR r V V2)
    (fun i W => pk_frR r V W.1 ∧ sp_ga D P (sp_lk D st.2.2.1 1) c d p i = some W.2) (D 2 0) ?_ ?_ (N - 1) 0 (V, 0) (by omega) (by omega) ⟨pk_frR.rf, rfl⟩
  · rw [show N - 1 + 1 = N by omega] at L
    exact L
  · intro fu W hW
    rw [q_X12_best_72]
    have T1 := hR.1.fr hW.1
    simp (disch := omega) only [hS, T1.1, pk_ckT, pk_bs, pk_letE, pk_bd2E, pk_bd3E, if_true, if_false, eq_self, not_true_eq_false, not_false_eq_true, true_and, and_true, Nat.not_lt_zero, Nat.zero_le, Nat.reduceEqDiff, Nat.reduceLT, Nat.reduceLeDiff, pk_ck, nI_leI, Nat.le_refl]
    have := last W.1 hW.1
    have hq' : q = some W.2 := hq.trans hW.2
    rw [hq'] at this
    rw [hq']
    exact this
  · intro fu i W hi hW ih
    have T1 := hR.1.fr hW.1
    have h60 : bk_rI W.1 r 60 = nI st.2.2.1 := (hR.frr hW.1).2.2.1.2.2.1
    have el := pr_isLeaking (N := N) (h := i) (l := 1) hS T1 hB.1 h60 hB.2.2.1.1.2.1 (by omega) hi
    have hwle := sp_ga_le hW.2
    have hne : ¬ nI (15 + 6 * j + W.2) = -nI 1 := fun g => by rw [pk_eqm1 (by omega)] at g; exact g
    have hbit := sp_lk_bit (D := D) (md := st.2.2.1) hi
    rw [q_X12_best_72]
    simp (disch := omega) only [hS, T1.1, pk_ckT, pk_bs, pk_letE, pk_bd2E, pk_bd3E, if_true, if_false, eq_self, not_true_eq_false, not_false_eq_true, true_and, and_true, Nat.not_lt_zero, Nat.zero_le, Nat.reduceEqDiff, Nat.reduceLT, Nat.reduceLeDiff, pk_ck, nI_leI, pk_lit, el, pk_B0]
    rw [if_neg (by omega), if_neg hne]
    have e : sp_ga D P (sp_lk D st.2.2.1 1) c d p (i + 1) = if sp_bit (sp_lk D st.2.2.1 1) i then (match sp_glue D P i c d p with
      | none => none
      | some g => some (W.2 + g)) else some W.2 := by rw [sp_ga, hW.2]
    by_cases cb : sp_bit (sp_lk D st.2.2.1 1) i
    · rw [if_neg (fun g => g (hbit.mp cb))]
      rw [if_pos cb] at e
      obtain ⟨V2, e1, f1⟩ := pr_glueOf (N := N) (c := c) (d := d) (by omega) hS T1 hB.1 hi hp
      rw [e1, pk_bd2E]
      cases hg : sp_glue D P i c d p with
      | none =>
        rw [hg] at e
        rw [if_pos (show pk_on none = -nI 1 from rfl)]
        have h1 := sp_ga_none (show sp_ga D P (sp_lk D st.2.2.1 1) c d p (i + 1) = none from e) (D 2 0 - (i + 1))
        rw [show i + 1 + (D 2 0 - (i + 1)) = D 2 0 by omega] at h1
        have hq' : q = none := hq.trans h1
        have := last V2 (hW.1.tr f1)
        rw [hq'] at this
        rw [hq']
        have this : ∃ V2', q_X12_best_135 N Y V2 r (nI j) (nI k) (-nI 1) = _ ∧ _ := this
        simp only [q_X12_best_127, q_X12_best_129, pk_lit, nI_add]
        rw [q_X12_best_72]
        simp only [hS, pk_ckT, pk_bs, pk_letE, pk_bd2E, pk_bd3E, if_true, if_false, eq_self, not_true_eq_false, not_false_eq_true, true_and, and_true, Nat.not_lt_zero, Nat.zero_le, Nat.reduceEqDiff, Nat.reduceLT, Nat.reduceLeDiff, pk_ck, pk_lit]
        rw [ite_self]
        exact this
      | some v =>
        have hv := sp_glue_le hg
        rw [hg] at e
        rw [if_neg (show ¬ pk_on (some v) = -nI 1 by rw [pk_onm1 (fun k hk => by cases hk; omega)]; intro q; cases q), show pk_on (some v) = nI v from rfl]
        simp only [q_X12_best_127, q_X12_best_129, pk_lit, nI_add]
        have ih2 := ih (V2, W.2 + v) ⟨hW.1.tr f1, e⟩
        rw [← Nat.add_assoc] at ih2
        exact ih2
    · rw [if_pos (fun g => cb (hbit.mpr g))]
      rw [if_neg cb] at e
      simp only [q_X12_best_129, pk_lit, nI_add]
      exact ih (W.1, W.2) ⟨hW.1, e⟩
theorem pk_4if {α : Type} {c1 c2 c3 c4 : Prop} [Decidable c1] [Decidable c2] [Decidable c3] [Decidable c4] {f : Int32 → α} : (if ¬ c1 then f (nI 0) else if ¬ c2 then f (nI 0) else if ¬ c3 then f (nI 0) else if ¬ c4 then f (nI 0) else f (nI 1)) = f (pk_B (c1 ∧ c2 ∧ c3 ∧ c4)) := by
  by_cases h1 : c1
  · rw [if_neg (fun q => q h1), pk_3if]
    congr 1
    by_cases h2 : c2 ∧ c3 ∧ c4
    · rw [pk_Bt h2, pk_Bt ⟨h1, h2⟩]
    · rw [pk_Bf h2, pk_Bf (fun q => h2 q.2)]
  · rw [if_pos h1, pk_Bf (fun q => h1 q.1)]
theorem st_27 (hN : 20000 ≤ N) (hI : pk_IA z Y V) : bk_st27 N z (z + 58) (z + 86) Y V x1 x2 x3 x4 x5 (pk_IA z) := by
  obtain ⟨t, u, s, D, P, T, tl, st, hs, img, pl, fp, r0, r1, hJ, hR, hB, hC, hRA, hBA⟩ := hI.e
  obtain ⟨hM, hS, hz, hT, hs5, -⟩ := hJ.o
  rcases pk_ix2 x5 (n := 2) (by omega) with hx | ⟨w, hw, rfl⟩
  · have q := pk_out (m := 1) hx (by decide) (by decide)
    refine ⟨.inl 1, ?_, (fun e he => by cases he; exact Or.inl rfl), pk_stT hC hRA hBA rfl (k := 1) (by decide) (v := nI 0) (fun Y1 V1 h1 h2 => ⟨_, ?_, pk_frR.rf⟩)⟩
    · simp only [q_X11_best, pc_isWithin, pk_bs, pk_lit, pc_needE]
      rw [if_neg q, pk_bdxL]
    · simp only [q_X12_best, h1, pk_ckT, eq_self, pk_letE, pk_lit]
      rw [pr_isWhat h1 pk_w0, pk_bd2E, pk_Bf q, if_pos rfl, if_neg q]
  · have qw := pk_inn (m := 1) hw (by decide) rfl
    have eC : q_X11_best N Y V z x1 x2 x3 x4 (nI w) = q_X11_best_47 N Y V z x1 x2 x3 x4 (nI w) (pk_B (pk_wn x1 60 ∧ pk_wn x2 100 ∧ pk_wn x3 100 ∧ pk_wn x4 100)) := by
      rw [q_X11_best]
      simp only [pc_isWithin, pc_hundred, pk_bs, pk_lit, pk_B0, pc_needE, q_X11_best_46]
      rw [if_pos qw, pk_bdxR]
      exact pk_4if (f := q_X11_best_47 N Y V z x1 x2 x3 x4 (nI w))
    have eR : ∀ Y1 V1, pk_Rf Y1 (z + 58) → q_X12_best N Y1 V1 (z + 58) x1 x2 x3 x4 (nI w) = q_X12_best_51 N Y1 (bk_wI V1 (z + 58) 0 (nI 0)) (z + 58) x1 x2 x3 x4 (nI w) (z + 58) (pk_B (pk_wn x1 60 ∧ pk_wn x2 100 ∧ pk_wn x3 100 ∧ pk_wn x4 100)) := by
      intro Y1 V1 h1
      simp only [q_X12_best, h1, pk_ckT, eq_self, pk_letE, pk_lit]
      rw [pr_isWhat h1 pk_w0, pk_bd2E, pk_Bt qw, if_neg (by decide), if_pos qw]
      simp only [pk_bs, pr_within, pr_isPatch, pk_lit, pk_B0, q_X12_best_50]
      by_cases h0 : pk_wn x1 60
      · rw [if_neg (fun q => q h0)]
        by_cases h12 : pk_wn (nI 0) 60 ∧ pk_wn x2 100 ∧ pk_wn x3 100
        · rw [if_neg (fun q => q h12)]
          by_cases h3 : pk_wn x4 100
          · rw [if_neg (fun q => q h3), pk_Bt ⟨h0, h12.2.1, h12.2.2, h3⟩]
          · rw [if_pos h3, pk_Bf (fun q => h3 q.2.2.2)]
        · rw [if_pos h12, pk_Bf (fun q => h12 ⟨by decide, q.2.1, q.2.2.1⟩)]
      · rw [if_pos h0, pk_Bf (fun q => h0 q.1)]
    by_cases c : pk_wn x1 60 ∧ pk_wn x2 100 ∧ pk_wn x3 100 ∧ pk_wn x4 100
    · have hb := pk_Bt c
      rw [hb] at eC eR
      obtain ⟨j, hj, rfl⟩ := pk_wnx c.1 (by decide)
      obtain ⟨c', hc', rfl⟩ := pk_wnx c.2.1 (by decide)
      obtain ⟨d, hd, rfl⟩ := pk_wnx c.2.2.1 (by decide)
      obtain ⟨p, hp, rfl⟩ := pk_wnx c.2.2.2 (by decide)
      obtain ⟨o, ho⟩ : ∃ o, o = sp_go D P (sp_lk D st.2.2.1 1) (1000 * D 0 4) st.2.1 (6 * j) 0 st.1 0 := ⟨_, rfl⟩
      obtain ⟨q, hq⟩ : ∃ q, q = sp_ga D P (sp_lk D st.2.2.1 1) c' d p (D 2 0) := ⟨_, rfl⟩
      obtain ⟨V1, e1, f1⟩ := pc_best (k := w) hN hJ hB hj hp hw ho hq
      refine ⟨.inr (nI (if w = 0 then (sp_b2 o q j).1 else (sp_b2 o q j).2), V1), by rw [eC, e1], (fun e he => by cases he), pk_stQ hC hRA hBA (pk_CA.fr hJ f1) rfl (fun Y1 V1 h1 h2 => ?_)⟩
      have h3 : pk_JR (z + 58) (bk_wI V1 (z + 58) 0 (nI 0)) D P T tl st hs img pl fp r0 r1 := pk_JR.w0 h2
      obtain ⟨V2, e2, f2⟩ := pr_best (N := N) (k := w) hN h1 h3 hB hj hp hw ho hq
      refine ⟨V2, ?_, f2⟩
      have e9 : q_X12_right N Y1 (bk_wI V1 (z + 58) 0 (nI 0)) (z + 58) (nI 1) (nI 2) = some (nI 1, bk_wI V1 (z + 58) 0 (nI 0)) := pr_right (c := True) h1 pk_w0 (Or.inr rfl)
      rw [eR Y1 V1 h1, q_X12_best_51]
      simp only [h1, pk_ckT, eq_self, pk_lit, e9, pk_bd2E, pk_mul, nI_add]
      rw [if_neg (by decide)]
      exact e2
    · refine ⟨.inl 2, ?_, (fun e he => by cases he; exact Or.inr rfl), pk_stT hC hRA hBA rfl (k := 2) (by decide) (v := nI 0) (fun Y1 V1 h1 h2 => ⟨_, ?_, pk_frR.rf⟩)⟩
      · rw [eC, q_X11_best_47, pc_needA, if_neg c, pk_bdxL]
      · rw [eR Y1 V1 h1, q_X12_best_51]
        simp only [h1, pk_ckT, eq_self, pk_lit]
        rw [pr_right h1 pk_w0 (Or.inr rfl), pk_bd2E, if_neg c, pk_Bf c, if_pos rfl]
end
