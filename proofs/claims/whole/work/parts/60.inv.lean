/-! what holds between calls: of the class (pk_JC), of the reference (pk_JR), of the numbers (pk_JB) -/
abbrev pk_St : Type := Nat × Nat × Nat × (Nat → Nat)
def pk_rg (z : Nat) (Y : bk_Lay) (a : Nat) : Prop := (a = z + 56 ∨ a = z + 57 ∨ z + 87 ≤ a) ∧ a < bk_sz Y
def pk_CS (z : Nat) (Y : bk_Lay) (V : bk_Val) (d s : Nat) (st : pk_St) : Prop := pk_rg z Y s ∧ bk_sh Y s = (1, 5) ∧ bk_rI V s 1 = nI st.1 ∧ bk_rI V s 2 = nI st.2.1 ∧ bk_rI V s 3 = nI st.2.2.1 ∧ ∃ w, bk_rR Y s 4 = some w ∧ pk_rg z Y w ∧ bk_sh Y w = (3, 4 * d) ∧ ∀ p, p < 4 * d → bk_rL V w p = lN (st.2.2.2 p)
def pk_Ch (z : Nat) (Y : bk_Lay) (V : bk_Val) (d : Nat) : Nat → pk_St → List pk_St → Prop
  | s, st, [] => pk_CS z Y V d s st
  | s, st, g :: r => pk_CS z Y V d s st ∧ ∃ s', bk_rR Y s 0 = some s' ∧ pk_Ch z Y V d s' g r
/-- states stay -/
def pk_kp (z : Nat) (Y : bk_Lay) (V : bk_Val) (Y' : bk_Lay) (V' : bk_Val) : Prop := bk_sz Y ≤ bk_sz Y' ∧ ∀ a, pk_rg z Y a → bk_sh Y' a = bk_sh Y a ∧ Y'.2.1 a = Y.2.1 a ∧ V'.1 a = V.1 a ∧ V'.2 a = V.2 a
theorem pk_rg.kp {z a : Nat} {Y Y' : bk_Lay} (h : pk_rg z Y a) (hs : bk_sz Y ≤ bk_sz Y') : pk_rg z Y' a := ⟨h.1, Nat.lt_of_lt_of_le h.2 hs⟩
theorem pk_CS.kp {z d s : Nat} {Y Y' : bk_Lay} {V V' : bk_Val} {st : pk_St} (h : pk_CS z Y V d s st) (k : pk_kp z Y V Y' V') : pk_CS z Y' V' d s st := by
  obtain ⟨h1, h2, h3, h4, h5, w, h6, h7, h8, h9⟩ := h
  obtain ⟨k1, k2⟩ := k
  obtain ⟨a1, a2, a3, a4⟩ := k2 s h1
  obtain ⟨e1, e2, e3, e4⟩ := k2 w h7
  refine ⟨h1.kp k1, by rw [a1]; exact h2, ?_, ?_, ?_, w, ?_, h7.kp k1, by rw [e1]; exact h8, fun p hp => ?_⟩
  · rw [← h3]; exact congrFun a3 1
  · rw [← h4]; exact congrFun a3 2
  · rw [← h5]; exact congrFun a3 3
  · rw [← h6]; exact congrFun a2 4
  · rw [← h9 p hp]; exact congrFun e4 p
theorem pk_Ch.kp {z d : Nat} {Y Y' : bk_Lay} {V V' : bk_Val} (k : pk_kp z Y V Y' V') : ∀ {l : List pk_St} {s : Nat} {st : pk_St}, pk_Ch z Y V d s st l → pk_Ch z Y' V' d s st l
  | [], _, _, h => pk_CS.kp h k
  | g :: r, s, st, h => by
    obtain ⟨h1, s', h2, h3⟩ := h
    refine ⟨h1.kp k, s', ?_, pk_Ch.kp k h3⟩
    rw [← h2]
    exact congrFun (k.2 s h1.1).2.1 0
theorem pk_Ch.hd {z d s : Nat} {Y : bk_Lay} {V : bk_Val} {st : pk_St} : ∀ {l : List pk_St}, pk_Ch z Y V d s st l → pk_CS z Y V d s st
  | [], h => h
  | _ :: _, h => h.1
theorem pk_Ch.take {z d : Nat} {Y : bk_Lay} {V : bk_Val} : ∀ {l : List pk_St} {s : Nat} {st : pk_St} (n : Nat), pk_Ch z Y V d s st l → pk_Ch z Y V d s st (l.take n)
  | [], _, _, n, h => by rw [List.take_nil]; exact h
  | g :: r, s, st, 0, h => h.1
  | g :: r, s, st, n + 1, h => by
    obtain ⟨h1, s', h2, h3⟩ := h
    exact ⟨h1, s', h2, h3.take n⟩
def pk_CI (z : Nat) (Y : bk_Lay) (V : bk_Val) (d : Nat) (img : Option (pk_St × List pk_St)) : Prop := match img with
  | none => bk_rR Y z 9 = none
  | some g => ∃ s, bk_rR Y z 9 = some s ∧ pk_Ch z Y V d s g.1 g.2 ∧ bk_rI V z 10 = nI g.2.length
def pk_CP (z : Nat) (V : bk_Val) (pl : Option (Nat → Nat)) : Prop := match pl with
  | none => bk_rI V z 11 = nI 0
  | some f => bk_rI V z 11 = nI 1 ∧ ∀ i, i < 84 → bk_rI V (z + 8) i = nI (f i)
/-! what one believes -/
def sp_in (w : Nat → Nat) (i : Nat) : Nat := w (4 * i) + w (4 * i + 1) + w (4 * i + 2) + w (4 * i + 3)
def sp_win (D : Nat → Nat → Nat) (w : Nat → Nat) (i : Nat) : Nat := sp_sum (fun k => sp_in w ((i + k) % D 0 0)) (D 0 1)
def sp_best (f : Nat → Nat) : Nat → Nat
  | 0 => 0
  | n + 1 => if f (sp_best f n) < f n then n else sp_best f n
def sp_next (D : Nat → Nat → Nat) (w : Nat → Nat) : Nat := sp_best (sp_win D w) (D 0 0)
abbrev sp_look (D : Nat → Nat → Nat) (j i : Nat) : Prop := (j + D 0 0 - i) % D 0 0 < D 0 1
def sp_dip (D : Nat → Nat → Nat) (w : Nat → Nat) (i : Nat) : Nat → Nat := fun p => if p < 4 * D 0 0 ∧ sp_look D (p / 4) i then w p * D 0 2 / 100 else w p
def sp_rt (D : Nat → Nat → Nat) (w : Nat → Nat) : Nat → Nat → Nat
  | 0 => w
  | k + 1 => sp_dip D (sp_rt D w k) (sp_next D (sp_rt D w k))
def sp_tot (D : Nat → Nat → Nat) (w : Nat → Nat) : Nat := sp_sum w (4 * D 0 0)
def pk_CO (z : Nat) (Y : bk_Lay) (V : bk_Val) (t : Nat) (D : Nat → Nat → Nat) (w : Nat → Nat) : Prop := bk_rI V (z + 3) 6 = nI 0 ∨ (bk_rI V (z + 3) 6 = nI 1 ∧ bk_rR Y (z + 3) 4 = some t ∧ ∃ k, k ≤ 600 ∧ bk_rI V (z + 3) 5 = nI k ∧ (∀ i, i < k → bk_rI V (z + 6) i = nI (sp_next D (sp_rt D w i))) ∧ (∀ i, i ≤ k → bk_rL V (z + 7) i = lN (sp_tot D (sp_rt D w i))) ∧ (∀ p, p < 4 * D 0 0 → bk_rL V (z + 4) p = lN (sp_rt D w k p)) ∧ ∀ i, i < D 0 0 → bk_rL V (z + 5) i = lN (sp_in (sp_rt D w k) i))
def pk_by (c : Nat) : Int32 := (nI c).toInt8.toInt32
def pk_JC (z : Nat) (Y : bk_Lay) (V : bk_Val) (t u s : Nat) (D : Nat → Nat → Nat) (P : Nat → List Nat) (T : Nat → Nat) (tl : Nat) (st : pk_St) (hs : List pk_St) (img : Option (pk_St × List pk_St)) (pl : Option (Nat → Nat)) (fp r0 r1 : Int32) : Prop :=
  pk_Fix z Y ∧ ((t = z + 10 ∧ u = z + 32) ∨ (t = z + 32 ∧ u = z + 10)) ∧ (bk_rR Y z 5 = some t ∧ bk_rR Y z 6 = some u ∧ bk_rR Y z 7 = some s) ∧
  pk_CT V t D P ∧ (bk_rI V (z + 1) 1 = nI tl ∧ ∀ j, j < tl → bk_rI V (z + 2) j = pk_by (T j)) ∧
  pk_Ch z Y V (D 0 0) s st hs ∧ bk_rI V z 8 = nI hs.length ∧ pk_CI z Y V (D 0 0) img ∧ pk_CP z V pl ∧
  (bk_rI V z 12 = fp ∧ bk_rI V z 13 = r0 ∧ bk_rI V z 14 = r1) ∧ pk_CO z Y V t D st.2.2.2
def pk_RS (V : bk_Val) (r : Nat) (st : pk_St) : Prop := bk_rI V r 58 = nI st.1 ∧ bk_rI V r 59 = nI st.2.1 ∧ bk_rI V r 60 = nI st.2.2.1 ∧ ∀ p, p < 336 → bk_rL V (r + 15) p = lN (st.2.2.2 p)
def pk_RH (V : bk_Val) (a b : Nat) : List pk_St → Prop
  | [] => True
  | g :: l => bk_rI V a (3 * l.length) = nI g.1 ∧ bk_rI V a (3 * l.length + 1) = nI g.2.1 ∧ bk_rI V a (3 * l.length + 2) = nI g.2.2.1 ∧ (∀ p, p < 336 → bk_rL V b (336 * l.length + p) = lN (g.2.2.2 p)) ∧ pk_RH V a b l
def pk_RI (V : bk_Val) (r : Nat) (img : Option (pk_St × List pk_St)) : Prop := match img with
  | none => bk_rI V r 77 = nI 0
  | some g => bk_rI V r 77 = nI 1 ∧ bk_rI V r 78 = nI g.1.1 ∧ bk_rI V r 79 = nI g.1.2.1 ∧ bk_rI V r 80 = nI g.1.2.2.1 ∧ bk_rI V r 81 = nI g.2.length ∧ (∀ p, p < 336 → bk_rL V (r + 25) p = lN (g.1.2.2.2 p)) ∧ pk_RH V (r + 27) (r + 26) g.2
def pk_RP (V : bk_Val) (r : Nat) (pl : Option (Nat → Nat)) : Prop := match pl with
  | none => bk_rI V r 69 = nI 0
  | some f => bk_rI V r 69 = nI 1 ∧ ∀ i, i < 84 → bk_rI V (r + 22) i = nI (f i)
def pk_JR (r : Nat) (V : bk_Val) (D : Nat → Nat → Nat) (P : Nat → List Nat) (T : Nat → Nat) (tl : Nat) (st : pk_St) (hs : List pk_St) (img : Option (pk_St × List pk_St)) (pl : Option (Nat → Nat)) (fp r0 r1 : Int32) : Prop :=
  pk_RT V r D P ∧ (bk_rI V r 20 = nI tl ∧ ∀ j, j < tl → bk_rI V (r + 6) j = nI (T j)) ∧ pk_RS V r st ∧ bk_rI V r 61 = nI hs.length ∧ pk_RH V (r + 17) (r + 16) hs ∧ pk_RI V r img ∧ pk_RP V r pl ∧ (bk_rI V r 22 = fp ∧ bk_rI V (r + 7) 0 = r0 ∧ bk_rI V (r + 7) 1 = r1)
def pk_SB (D : Nat → Nat → Nat) (st : pk_St) : Prop := st.1 ≤ 100000 ∧ st.2.2.1 < 64 ∧ (∀ p, st.2.2.2 p ≤ 1000000000000000) ∧ ∀ p, 4 * D 0 0 ≤ p → st.2.2.2 p = 0
def pk_HB (D : Nat → Nat → Nat) (st : pk_St) (hs : List pk_St) : Prop := pk_SB D st ∧ (∀ g ∈ hs, pk_SB D g) ∧ hs.length ≤ 40
def pk_JB (D : Nat → Nat → Nat) (P : Nat → List Nat) (T : Nat → Nat) (tl : Nat) (st : pk_St) (hs : List pk_St) (img : Option (pk_St × List pk_St)) : Prop := pk_DB D P ∧ (tl ≤ 700 ∧ ∀ j, T j < 256) ∧ pk_HB D st hs ∧ ∀ g, img = some g → pk_HB D g.1 g.2
def pk_I (z : Nat) (Y : bk_Lay) (V : bk_Val) : Prop := ∃ t u s D P T tl st hs img pl fp r0 r1, pk_JC z Y V t u s D P T tl st hs img pl fp r0 r1 ∧ pk_JR (z + 58) V D P T tl st hs img pl fp r0 r1 ∧ pk_JB D P T tl st hs img
section
variable {z t u s tl r : Nat} {Y Y' : bk_Lay} {V V' : bk_Val} {D : Nat → Nat → Nat} {P : Nat → List Nat} {T : Nat → Nat} {st : pk_St} {hs : List pk_St} {img : Option (pk_St × List pk_St)} {pl : Option (Nat → Nat)} {fp r0 r1 : Int32}
theorem pk_RH.of {a b : Nat} (h1 : V'.1 a = V.1 a) (h2 : V'.2 b = V.2 b) : ∀ {l : List pk_St}, pk_RH V a b l → pk_RH V' a b l
  | [], _ => trivial
  | g :: l, h => by
    obtain ⟨c1, c2, c3, c4, c5⟩ := h
    have e : ∀ j, bk_rI V' a j = bk_rI V a j := fun j => congrFun h1 j
    have e' : ∀ j, bk_rL V' b j = bk_rL V b j := fun j => congrFun h2 j
    exact ⟨(e _).trans c1, (e _).trans c2, (e _).trans c3, fun p hp => (e' _).trans (c4 p hp), pk_RH.of h1 h2 c5⟩
theorem pk_JR.of (h : pk_JR r V D P T tl st hs img pl fp r0 r1) (e1 : ∀ a, r < a → a ≤ r + 27 → a ≠ r + 18 → a ≠ r + 19 → a ≠ r + 24 → (a < r + 8 ∨ r + 14 < a) → V'.1 a = V.1 a) (e2 : ∀ k, 0 < k → k ≠ 71 → k ≠ 72 → k ≠ 73 → k ≠ 75 → (k < 21 ∨ k = 22 ∨ 57 < k) → V'.1 r k = V.1 r k) (e3 : ∀ a, r < a → a ≤ r + 27 → a ≠ r + 20 → a ≠ r + 21 → a ≠ r + 23 → V'.2 a = V.2 a) : pk_JR r V' D P T tl st hs img pl fp r0 r1 := by
  obtain ⟨h1, ⟨h2, h2'⟩, ⟨h3, h3a, h3b, h3c⟩, h4, h5, h6, h7, h8, h8a, h8b⟩ := h
  have g1 : ∀ a j, r < a → a ≤ r + 27 → a ≠ r + 18 → a ≠ r + 19 → a ≠ r + 24 → (a < r + 8 ∨ r + 14 < a) → bk_rI V' a j = bk_rI V a j := fun a j q1 q2 q3 q4 q5 q6 => congrFun (e1 a q1 q2 q3 q4 q5 q6) j
  have g2 : ∀ k, 0 < k → k ≠ 71 → k ≠ 72 → k ≠ 73 → k ≠ 75 → (k < 21 ∨ k = 22 ∨ 57 < k) → bk_rI V' r k = bk_rI V r k := e2
  have g3 : ∀ a j, r < a → a ≤ r + 27 → a ≠ r + 20 → a ≠ r + 21 → a ≠ r + 23 → bk_rL V' a j = bk_rL V a j := fun a j q1 q2 q3 q4 q5 => congrFun (e3 a q1 q2 q3 q4 q5) j
  refine ⟨h1.of (fun a x y => e1 a x (by omega) (by omega) (by omega) (by omega) (by omega)) (fun k x y => e2 k x (by omega) (by omega) (by omega) (by omega) (by omega)), ⟨(g2 _ (by omega) (by omega) (by omega) (by omega) (by omega) (by omega)).trans h2, fun j hj => (g1 _ _ (by omega) (by omega) (by omega) (by omega) (by omega) (by omega)).trans (h2' j hj)⟩, ⟨(g2 _ (by omega) (by omega) (by omega) (by omega) (by omega) (by omega)).trans h3, (g2 _ (by omega) (by omega) (by omega) (by omega) (by omega) (by omega)).trans h3a, (g2 _ (by omega) (by omega) (by omega) (by omega) (by omega) (by omega)).trans h3b, fun p hp => (g3 _ _ (by omega) (by omega) (by omega) (by omega) (by omega)).trans (h3c p hp)⟩, (g2 _ (by omega) (by omega) (by omega) (by omega) (by omega) (by omega)).trans h4, h5.of (e1 _ (by omega) (by omega) (by omega) (by omega) (by omega) (by omega)) (e3 _ (by omega) (by omega) (by omega) (by omega) (by omega)), ?_, ?_, (g2 _ (by omega) (by omega) (by omega) (by omega) (by omega) (by omega)).trans h8, (g1 _ _ (by omega) (by omega) (by omega) (by omega) (by omega) (by omega)).trans h8a, (g1 _ _ (by omega) (by omega) (by omega) (by omega) (by omega) (by omega)).trans h8b⟩
  · cases img with
    | none => exact (g2 _ (by omega) (by omega) (by omega) (by omega) (by omega) (by omega)).trans h6
    | some g =>
      obtain ⟨i1, i2, i3, i4, i5, i6, i7⟩ := h6
      exact ⟨(g2 _ (by omega) (by omega) (by omega) (by omega) (by omega) (by omega)).trans i1, (g2 _ (by omega) (by omega) (by omega) (by omega) (by omega) (by omega)).trans i2, (g2 _ (by omega) (by omega) (by omega) (by omega) (by omega) (by omega)).trans i3, (g2 _ (by omega) (by omega) (by omega) (by omega) (by omega) (by omega)).trans i4, (g2 _ (by omega) (by omega) (by omega) (by omega) (by omega) (by omega)).trans i5, fun p hp => (g3 _ _ (by omega) (by omega) (by omega) (by omega) (by omega)).trans (i6 p hp), i7.of (e1 _ (by omega) (by omega) (by omega) (by omega) (by omega) (by omega)) (e3 _ (by omega) (by omega) (by omega) (by omega) (by omega))⟩
  · cases pl with
    | none => exact (g2 _ (by omega) (by omega) (by omega) (by omega) (by omega) (by omega)).trans h7
    | some f => exact ⟨(g2 _ (by omega) (by omega) (by omega) (by omega) (by omega) (by omega)).trans h7.1, fun i hi => (g1 _ _ (by omega) (by omega) (by omega) (by omega) (by omega) (by omega)).trans (h7.2 i hi)⟩
theorem pk_JC.of (h : pk_JC z Y V t u s D P T tl st hs img pl fp r0 r1) (y1 : Y'.1 = Y.1) (y2 : Y'.2.1 = Y.2.1) (y3 : bk_sz Y ≤ bk_sz Y') (e1 : ∀ a, z ≤ a → a < z + 58 → a ≠ t + 17 → a ≠ t + 20 → a ≠ t + 21 → a ≠ z + 9 → V'.1 a = V.1 a) (e2 : ∀ a, z ≤ a → a < z + 58 → V'.2 a = V.2 a) (e3 : ∀ a, z + 87 ≤ a → V'.1 a = V.1 a ∧ V'.2 a = V.2 a) : pk_JC z Y' V' t u s D P T tl st hs img pl fp r0 r1 := by
  obtain ⟨h1, h2, ⟨h3, h3a, h3b⟩, h4, ⟨h5, h5a⟩, h6, h7, h8, h9, ⟨h10, h10a, h10b⟩, h11⟩ := h
  have hsh : ∀ a, bk_sh Y' a = bk_sh Y a := fun a => congrFun y1 a
  have hrR : ∀ a k, bk_rR Y' a k = bk_rR Y a k := fun a k => congrFun (congrFun y2 a) k
  have g1 : ∀ a j, z ≤ a → a < z + 58 → a ≠ t + 17 → a ≠ t + 20 → a ≠ t + 21 → a ≠ z + 9 → bk_rI V' a j = bk_rI V a j := fun a j q1 q2 q3 q4 q5 q6 => congrFun (e1 a q1 q2 q3 q4 q5 q6) j
  have g2 : ∀ a j, z ≤ a → a < z + 58 → bk_rL V' a j = bk_rL V a j := fun a j q1 q2 => congrFun (e2 a q1 q2) j
  have kp : pk_kp z Y V Y' V' := by
    refine ⟨y3, fun a ha => ⟨hsh a, congrFun y2 a, ?_, ?_⟩⟩
    · rcases ha.1 with q | q | q
      · exact e1 a (by omega) (by omega) (by omega) (by omega) (by omega) (by omega)
      · exact e1 a (by omega) (by omega) (by omega) (by omega) (by omega) (by omega)
      · exact (e3 a q).1
    · rcases ha.1 with q | q | q
      · exact e2 a (by omega) (by omega)
      · exact e2 a (by omega) (by omega)
      · exact (e3 a q).2
  have m1 := fun k => g1 z k (by omega) (by omega) (by omega) (by omega) (by omega) (by omega)
  refine ⟨⟨fun e he => by rw [hsh]; exact h1.1 e he, fun e he => by rw [hrR]; exact h1.2.1 e he, Nat.le_trans h1.2.2 y3⟩, h2, ⟨by rw [hrR]; exact h3, by rw [hrR]; exact h3a, by rw [hrR]; exact h3b⟩, h4.of (fun a q1 q2 q3 => e1 a (by omega) (by omega) q3 (by omega) (by omega) (by omega)), ⟨(g1 _ _ (by omega) (by omega) (by omega) (by omega) (by omega) (by omega)).trans h5, fun j hj => (g1 _ _ (by omega) (by omega) (by omega) (by omega) (by omega) (by omega)).trans (h5a j hj)⟩, h6.kp kp, (m1 8).trans h7, ?_, ?_, ⟨(m1 12).trans h10, (m1 13).trans h10a, (m1 14).trans h10b⟩, ?_⟩
  · cases img with
    | none => exact (hrR z 9).trans h8
    | some g =>
      obtain ⟨s', i1, i2, i3⟩ := h8
      exact ⟨s', (hrR z 9).trans i1, i2.kp kp, (m1 10).trans i3⟩
  · cases pl with
    | none => exact (m1 11).trans h9
    | some f => exact ⟨(m1 11).trans h9.1, fun i hi => (g1 _ _ (by omega) (by omega) (by omega) (by omega) (by omega) (by omega)).trans (h9.2 i hi)⟩
  · have m3 := fun k => g1 (z + 3) k (by omega) (by omega) (by omega) (by omega) (by omega) (by omega)
    rcases h11 with h11 | ⟨o1, o2, k, o3, o4, o5, o6, o7, o8⟩
    · exact Or.inl ((m3 6).trans h11)
    · exact Or.inr ⟨(m3 6).trans o1, (hrR _ _).trans o2, k, o3, (m3 5).trans o4, fun i hi => (g1 _ _ (by omega) (by omega) (by omega) (by omega) (by omega) (by omega)).trans (o5 i hi), fun i hi => (g2 _ _ (by omega) (by omega)).trans (o6 i hi), fun i hi => (g2 _ _ (by omega) (by omega)).trans (o7 i hi), fun i hi => (g2 _ _ (by omega) (by omega)).trans (o8 i hi)⟩
end
