/-! ride -/
section
variable {N z t u s tl r a b c d k n j h m l p q0 md wa s' i f : Nat} {Y Y' : bk_Lay} {V V' V2 W : bk_Val} {x y x1 x2 x3 x4 x5 : Int32} {w1 w2 : Int64} {D : Nat → Nat → Nat} {P : Nat → List Nat} {T T' w : Nat → Nat} {st st' g : pk_St} {hs hs' : List pk_St} {img img' : Option (pk_St × List pk_St)} {pl : Option (Nat → Nat)} {fp r0 r1 : Int32} {A B : pk_A}
def sp_go (D : Nat → Nat → Nat) (P : Nat → List Nat) (s f m : Nat) : Nat → Nat → Nat → Nat → Option Nat
  | 0, _, _, c => some c
  | n + 1, k, p, c => if 10000 ≤ p - sp_gone D P s p (m + k) 1 then sp_go D P s f m n (k + 1) (p - sp_gone D P s p (m + k) 1) c
    else if 10000 ≤ f - sp_gone D P s f (m + k) 1 then sp_go D P s f m n (k + 1) (f - sp_gone D P s f (m + k) 1) (c + 1) else none
theorem sp_go_le : ∀ {n k p c j : Nat}, sp_go D P s f m n k p c = some j → j ≤ c + n
  | 0, _, _, _, _, h => by cases h; omega
  | n + 1, k, p, c, j, h => by
    rw [sp_go] at h
    split at h
    · have := sp_go_le h; omega
    · split at h
      · have := sp_go_le h; omega
      · cases h
theorem pc_pumped (hN : 20000 ≤ N) (hJ : pk_JC z Y V t u s D P T tl st hs img pl fp r0 r1) (hB : pk_JB D P T tl st hs img) (hj : j ≤ 60) : ∃ V2, q_X11_pumpedOver N Y V z (nI j) = some (pk_on (sp_go D P (sp_lk D st.2.2.1 1) (1000 * D 0 4) st.2.1 (6 * j) 0 st.1 0), V2) ∧ pk_fr t V V2 := by
  obtain ⟨hM, hS, hz, hT, hs5, -⟩ := hJ.o
  have hn := hJ.ne
  have hrg := hJ.2.2.2.2.2.1.hd.1.1
  have hp : st.1 ≤ 100000 := hB.2.2.1.1.1
  have b5 := hB.1.2.2.2.2.1.2
  have hlk := sp_lk_lt (md := st.2.2.1) (l := 1) hB.1
  have elk := pc_lk (N := N) (l := 1) (by omega) hJ hB (by omega)
  generalize ha : sp_lk D st.2.2.1 1 = a at *
  generalize hf : 1000 * D 0 4 = f at *
  have hfl : f ≤ 100000 := by omega
  have full : ∀ W, pk_CT W t D P → q_X5_fullPressure N Y W t = some (nI f) := fun W hW => by rw [← hf]; exact pc_full hS hW
  have L : ∀ (n k c p fu : Nat) (W : bk_Val), k + n = 6 * j → n < fu → p ≤ 100000 → pk_fr t V W → ∃ V2, q_X11_pumpedOver_20 N Y fu W z (nI j) (nI a) (nI p) (nI c) (nI k) = some (pk_on (sp_go D P a f st.2.1 n k p c), V2) ∧ pk_fr t V V2 := by
    intro n
    induction n with
    | zero =>
      intro k c p fu W hk hfu hp hW
      obtain ⟨fu, rfl⟩ : ∃ n', fu = n' + 1 := ⟨fu - 1, by omega⟩
      refine ⟨W, ?_, hW⟩
      rw [q_X11_pumpedOver_20]
      simp (disch := omega) only [pk_lit, pk_mul, nI_leI]
      rw [if_pos (by omega)]
      rfl
    | succ n ih =>
      intro k c p fu W hk hfu hp hW
      obtain ⟨fu, rfl⟩ : ∃ n', fu = n' + 1 := ⟨fu - 1, by omega⟩
      have T1 := hT.fr hW
      obtain ⟨V1, e1, f1⟩ := pc_goneBy (N := N) (s := a) (p := p) (m := st.2.1 + k) (l := 1) (by omega) hS T1 hB.1 (by omega) hp (by omega)
      have T2 := T1.fr f1
      obtain ⟨V3, e3, f3⟩ := pc_goneBy (N := N) (s := a) (p := f) (m := st.2.1 + k) (l := 1) (by omega) hS T2 hB.1 (by omega) hfl (by omega)
      have rs : bk_rI W s 2 = nI st.2.1 := by
        rw [← hs5.2.2.1]
        exact congrFun (hW.2 s (by omega) (by omega) (by omega)) 2
      have g1 := sp_gone_le (D := D) (P := P) (s := a) (p := p) (m := st.2.1 + k) (l := 1)
      have g2 := sp_gone_le (D := D) (P := P) (s := a) (p := f) (m := st.2.1 + k) (l := 1)
      rw [q_X11_pumpedOver_20, sp_go]
      generalize sp_gone D P a p (st.2.1 + k) 1 = G1 at *
      generalize sp_gone D P a f (st.2.1 + k) 1 = G2 at *
      simp (disch := omega) only [pk_lit, pk_mul, nI_leI]
      rw [if_neg (by omega)]
      simp (disch := omega) only [hM, hz, hs5, hS, pk_ckT, pk_bs, pk_letE, pk_bd2E, pk_bd3E, if_true, if_false, eq_self, not_true_eq_false, not_false_eq_true, true_and, and_true, Nat.not_lt_zero, Nat.zero_le, Nat.reduceEqDiff, Nat.reduceLT, Nat.reduceLeDiff, pk_ck, rs, pk_lit, nI_add, e1, pk_sub, nI_leI]
      by_cases c1 : 10000 ≤ p - G1
      · rw [if_pos c1, if_pos c1, q_X11_pumpedOver_95]
        simp (disch := omega) only [pk_lit, nI_leI, nI_add]
        rw [if_pos c1]
        exact ih (k + 1) c (p - G1) fu V1 (by omega) (by omega) (by omega) (hW.tr f1)
      · rw [if_neg c1, if_neg c1, full V1 T2, pk_bs, e3, pk_bd2E, q_X11_pumpedOver_95]
        simp (disch := omega) only [pk_lit, nI_leI, nI_add, pk_sub]
        by_cases c2 : 10000 ≤ f - G2
        · rw [if_pos c2, if_pos c2]
          exact ih (k + 1) (c + 1) (f - G2) fu V3 (by omega) (by omega) (by omega) ((hW.tr f1).tr f3)
        · rw [if_neg c2, if_neg c2]
          exact ⟨V3, rfl, (hW.tr f1).tr f3⟩
  obtain ⟨V2, e1, f1⟩ := L (6 * j) 0 0 st.1 N V (by omega) (by omega) hp pk_fr.rf
  refine ⟨V2, ?_, f1⟩
  simp only [q_X11_pumpedOver, hM, hz, hs5, pk_ckT, pk_bs, pk_letE, pk_bd2E, pk_bd3E, if_true, if_false, eq_self, not_true_eq_false, not_false_eq_true, true_and, and_true, Nat.not_lt_zero, Nat.zero_le, Nat.reduceEqDiff, Nat.reduceLT, Nat.reduceLeDiff, pk_ck, pk_lit, elk]
  exact e1
theorem pr_ridesFor (hN : 20000 ≤ N) (hS : pk_Rf Y r) (hR : pk_JR r V D P T tl st hs img pl fp r0 r1) (hB : pk_JB D P T tl st hs img) (hj : j ≤ 60) {o : Option Nat} (ho : o = sp_go D P (sp_lk D st.2.2.1 1) (1000 * D 0 4) st.2.1 (6 * j) 0 st.1 0) : ∃ V2, q_X12_ridesFor N Y V r (nI j) = some (pk_on (o.map (fun c => 6 * j + 3 * c)), V2) ∧ pk_frR r V V2 ∧ ∀ c, o = some c → bk_rI V2 r 75 = nI c := by
  have hp : st.1 ≤ 100000 := hB.2.2.1.1.1
  have b5 := hB.1.2.2.2.2.1.2
  have hlk := sp_lk_lt (md := st.2.2.1) (l := 1) hB.1
  have elk : ∀ W, pk_frR r V W → q_X12_leakers N Y W r (nI 1) = some (nI (sp_lk D st.2.2.1 1)) := fun W hW => pr_lk (by omega) hS (hR.frr hW) hB (by omega)
  have w75 : ∀ (W : bk_Val) (v : Int32), pk_frR r V W → pk_frR r V (bk_wI W r 75 v) := fun W v h => h.tr ⟨fun a q1 _ _ _ => pk_rowI q1, fun k _ _ _ q4 => pk_slot q4, fun a _ _ _ => rfl⟩
  have h5 : ∀ W, pk_frR r V W → bk_rI W r 5 = nI (D 0 4) := fun W hW => (hR.frr hW).1.1.2.2.2.2.1
  have h59 : ∀ W, pk_frR r V W → bk_rI W r 59 = nI st.2.1 := fun W hW => (hR.frr hW).2.2.1.2.1
  generalize ha : sp_lk D st.2.2.1 1 = a at *
  generalize hf : 1000 * D 0 4 = f at *
  have hfl : f ≤ 100000 := by omega
  have L : ∀ (n k c p fu : Nat) (W : bk_Val), k + n = 6 * j → n < fu → p ≤ 100000 → pk_frR r V W → bk_rI W r 75 = nI c → ∃ V2, q_X12_ridesFor_12 N Y fu W r (nI j) (nI p) (nI k) = some (pk_on ((sp_go D P a f st.2.1 n k p c).map (fun c => 6 * j + 3 * c)), V2) ∧ pk_frR r V V2 ∧ ∀ c', sp_go D P a f st.2.1 n k p c = some c' → bk_rI V2 r 75 = nI c' := by
    intro n
    induction n with
    | zero =>
      intro k c p fu W hk hfu hp hW h75
      obtain ⟨fu, rfl⟩ : ∃ n', fu = n' + 1 := ⟨fu - 1, by omega⟩
      refine ⟨W, ?_, hW, fun c' hc' => by cases hc'; exact h75⟩
      rw [q_X12_ridesFor_12]
      simp (disch := omega) only [pk_lit, pk_mul, nI_leI]
      rw [if_pos (by omega)]
      simp only [hS, pk_ckT, pk_bs, pk_letE, pk_bd2E, pk_bd3E, if_true, if_false, eq_self, not_true_eq_false, not_false_eq_true, true_and, and_true, Nat.not_lt_zero, Nat.zero_le, Nat.reduceEqDiff, Nat.reduceLT, Nat.reduceLeDiff, pk_ck, h75, pk_mul, nI_add]
      rfl
    | succ n ih =>
      intro k c p fu W hk hfu hp hW h75
      obtain ⟨fu, rfl⟩ : ∃ n', fu = n' + 1 := ⟨fu - 1, by omega⟩
      have T1 := hR.1.fr hW
      obtain ⟨V1, e1, f1⟩ := pr_goneByG (N := N) (s := a) (p := p) (m := st.2.1 + k) (l := 1) (by omega) hS T1 hB.1 (by omega) hp (by omega)
      have F1 := hW.tr f1.R
      have v75 : bk_rI V1 r 75 = nI c := (congrFun (f1.1 r (by omega) (by omega)) 75).trans h75
      have g1 := sp_gone_le (D := D) (P := P) (s := a) (p := p) (m := st.2.1 + k) (l := 1)
      have g2 := sp_gone_le (D := D) (P := P) (s := a) (p := f) (m := st.2.1 + k) (l := 1)
      have rest : ∀ (p' c' : Nat) (W' : bk_Val), p' ≤ 100000 → pk_frR r V W' → bk_rI W' r 75 = nI c' → sp_gone D P a p' (st.2.1 + k) 1 ≤ p' → ∃ V2, q_X12_ridesFor_68 N Y (q_X12_ridesFor_12 N Y fu) W' r (nI j) (nI p') (nI k) (nI a) = some (pk_on ((if 10000 ≤ p' - sp_gone D P a p' (st.2.1 + k) 1 then sp_go D P a f st.2.1 n (k + 1) (p' - sp_gone D P a p' (st.2.1 + k) 1) c' else none).map (fun c => 6 * j + 3 * c)), V2) ∧ pk_frR r V V2 ∧ ∀ c'', (if 10000 ≤ p' - sp_gone D P a p' (st.2.1 + k) 1 then sp_go D P a f st.2.1 n (k + 1) (p' - sp_gone D P a p' (st.2.1 + k) 1) c' else none) = some c'' → bk_rI V2 r 75 = nI c'' := by
        intro p' c' W' hp' hW' h75' hg
        obtain ⟨V3, e3, f3⟩ := pr_goneByG (N := N) (s := a) (p := p') (m := st.2.1 + k) (l := 1) (by omega) hS (hR.1.fr hW') hB.1 (by omega) hp' (by omega)
        have w75' : bk_rI V3 r 75 = nI c' := (congrFun (f3.1 r (by omega) (by omega)) 75).trans h75'
        rw [q_X12_ridesFor_68]
        simp (disch := omega) only [hS, pk_ckT, pk_bs, pk_letE, pk_bd2E, pk_bd3E, if_true, if_false, eq_self, not_true_eq_false, not_false_eq_true, true_and, and_true, Nat.not_lt_zero, Nat.zero_le, Nat.reduceEqDiff, Nat.reduceLT, Nat.reduceLeDiff, pk_ck, h59 W' hW', pk_lit, nI_add, e3, pk_sub, nI_leI]
        by_cases c1 : 10000 ≤ p' - sp_gone D P a p' (st.2.1 + k) 1
        · rw [if_pos c1, if_pos c1]
          exact ih (k + 1) c' _ fu V3 (by omega) (by omega) (by omega) (hW'.tr f3.R) w75'
        · rw [if_neg c1, if_neg c1]
          exact ⟨V3, rfl, hW'.tr f3.R, fun c'' h => by cases h⟩
      rw [q_X12_ridesFor_12, sp_go]
      simp (disch := omega) only [pk_lit, pk_mul, nI_leI]
      rw [if_neg (by omega)]
      simp (disch := omega) only [hS, pk_ckT, pk_bs, pk_letE, pk_bd2E, pk_bd3E, if_true, if_false, eq_self, not_true_eq_false, not_false_eq_true, true_and, and_true, Nat.not_lt_zero, Nat.zero_le, Nat.reduceEqDiff, Nat.reduceLT, Nat.reduceLeDiff, pk_ck, elk W hW, h59 W hW, pk_lit, nI_add, e1, pk_sub, nI_leI, h5 V1 F1, pk_mul, hf, v75]
      by_cases c1 : 10000 ≤ p - sp_gone D P a p (st.2.1 + k) 1
      · have := rest p c V1 hp F1 v75 g1
        rw [if_pos c1] at this
        rw [if_pos c1, if_pos c1]
        exact this
      · rw [if_neg c1, if_neg c1]
        exact rest f (c + 1) (bk_wI V1 r 75 (nI (c + 1))) hfl (w75 V1 _ F1) (by rw [pk_rI_same, if_pos rfl]) g2
  obtain ⟨V2, e1, f1, e2⟩ := L (6 * j) 0 0 st.1 N (bk_wI V r 75 (nI 0)) (by omega) (by omega) hp (w75 V _ pk_frR.rf) (by rw [pk_rI_same, if_pos rfl])
  rw [← ho] at e1 e2
  refine ⟨V2, ?_, f1, e2⟩
  simp only [q_X12_ridesFor, hS, pk_ckT, pk_bs, pk_letE, pk_bd2E, pk_bd3E, if_true, if_false, eq_self, not_true_eq_false, not_false_eq_true, true_and, and_true, Nat.not_lt_zero, Nat.zero_le, Nat.reduceEqDiff, Nat.reduceLT, Nat.reduceLeDiff, pk_ck, pk_lit, hR.2.2.1.1]
  exact e1
end
