/-! what a rule's text is read as: one relation for both readers -/
abbrev tq_sn (T : Nat → Nat) (L p c : Nat) : Prop := tq_k T L p = 3 ∧ T (tq_s T L p) = c
/-- the operator of a level that stands at p; 0 for none -/
def tq_o (T : Nat → Nat) (L l p : Nat) : Nat := if l = 1 then (if tq_w T L p = 33 then 1 else 0) else if l = 2 then (if tq_w T L p = 32 then 2 else 0) else if l = 4 then (if tq_sn T L p 60 then 4 else if tq_sn T L p 61 then 5 else 0) else if l = 5 then (if tq_sn T L p 43 then 6 else if tq_sn T L p 45 then 7 else 0) else if l = 6 then (if tq_sn T L p 42 then 8 else if tq_sn T L p 47 then 9 else 0) else 0
/-- which value a word names (the class's numbers); 9 for none -/
def tq_vl (h k : Nat) : Nat := if h = 0 then (if k = 0 then 0 else if k = 1 then 1 else if k = 4 then 2 else if k = 2 then 3 else if k = 3 then 4 else 9) else (if k = 0 then 0 else if k = 1 then 1 else if k = 5 then 2 else if k = 6 then 3 else if k = 7 then 4 else if k = 8 then 5 else 9)
def tq_nx (l : Nat) : Nat := if l = 1 then 22 else if l = 2 then 3 else if l = 5 then 26 else 7
abbrev tq_lv (l : Nat) : Prop := l = 1 ∨ l = 2 ∨ l = 5 ∨ l = 6
def tq_C (T : Nat → Nat) (L h : Nat) (P : Nat → Nat → Nat → Nat → List Nat → Nat × Nat × List Nat → Prop) : Prop :=
  (∀ (w p : Nat), tq_k T L p = 2 → tq_e T L p - tq_s T L p ≤ 4 → P 7 w p 0 [] (0, tq_e T L p, [tq_v T L p])) ∧
  (∀ (w p : Nat), tq_k T L p = 2 → 4 < tq_e T L p - tq_s T L p → P 7 w p 0 [] (2, tq_s T L p, [])) ∧
  (∀ (w p : Nat), tq_k T L p = 1 → tq_vl h (tq_w T L p) < 9 → P 7 w p 0 [] (0, tq_e T L p, [10000 + tq_vl h (tq_w T L p)])) ∧
  (∀ (w p : Nat), tq_k T L p = 1 → tq_vl h (tq_w T L p) = 9 → P 7 w p 0 [] (3, tq_s T L p, [])) ∧
  (∀ (w p : Nat), tq_k T L p ≠ 2 → tq_k T L p ≠ 1 → ¬ tq_sn T L p 40 → P 7 w p 0 [] (1, tq_s T L p, [])) ∧
  (∀ (w p p' : Nat) (c : List Nat), tq_sn T L p 40 → P 1 (w + 1) (tq_e T L p) 0 [] (0, p', c) → tq_sn T L p' 41 → P 7 w p 0 [] (0, tq_e T L p', c)) ∧
  (∀ (w p p' : Nat) (c : List Nat), tq_sn T L p 40 → P 1 (w + 1) (tq_e T L p) 0 [] (0, p', c) → ¬ tq_sn T L p' 41 → P 7 w p 0 [] (1, tq_s T L p', [])) ∧
  (∀ (w p k e : Nat) (c : List Nat), tq_sn T L p 40 → P 1 (w + 1) (tq_e T L p) 0 [] (k + 1, e, c) → P 7 w p 0 [] (k + 1, e, c)) ∧
  (∀ (w p : Nat), 6 ≤ w → P 1 w p 0 [] (if tq_k T L p = 2 ∨ tq_k T L p = 1 ∨ tq_sn T L p 40 then 2 else 1, tq_s T L p, [])) ∧
  (∀ (w p : Nat) (o : Nat × Nat × List Nat), w < 6 → P 21 w p 0 [] o → P 1 w p 0 [] o) ∧
  (∀ (l w p p' : Nat) (c : List Nat) (o : Nat × Nat × List Nat), tq_lv l → P (tq_nx l) w p 0 [] (0, p', c) → P (10 + l) w p' 0 c o → P (20 + l) w p 0 [] o) ∧
  (∀ (l w p k e : Nat) (c : List Nat), tq_lv l → P (tq_nx l) w p 0 [] (k + 1, e, c) → P (20 + l) w p 0 [] (k + 1, e, c)) ∧
  (∀ (l w p p' : Nat) (c c2 : List Nat) (o : Nat × Nat × List Nat), tq_lv l → tq_o T L l p ≠ 0 → P (tq_nx l) w (tq_e T L p) 0 [] (0, p', c2) → P (10 + l) w p' 0 (c ++ c2 ++ [20000 + tq_o T L l p]) o → P (10 + l) w p 0 c o) ∧
  (∀ (l w p k e : Nat) (c c2 : List Nat), tq_lv l → tq_o T L l p ≠ 0 → P (tq_nx l) w (tq_e T L p) 0 [] (k + 1, e, c2) → P (10 + l) w p 0 c (k + 1, e, c2)) ∧
  (∀ (l w p : Nat) (c : List Nat), tq_lv l → tq_o T L l p = 0 → P (10 + l) w p 0 c (0, p, c)) ∧
  (∀ (w p n : Nat) (o : Nat × Nat × List Nat), tq_w T L p = 34 → n < 6 → P 3 w (tq_e T L p) (n + 1) [] o → P 3 w p n [] o) ∧
  (∀ (w p n : Nat), tq_w T L p = 34 → n = 6 → P 3 w p n [] (2, tq_s T L p, [])) ∧
  (∀ (w p n p' : Nat) (c : List Nat), tq_w T L p ≠ 34 → n ≤ 6 → P 4 w p 0 [] (0, p', c) → P 3 w p n [] (0, p', c ++ List.replicate n 20003)) ∧
  (∀ (w p n k e : Nat) (c : List Nat), tq_w T L p ≠ 34 → n ≤ 6 → P 4 w p 0 [] (k + 1, e, c) → P 3 w p n [] (k + 1, e, c)) ∧
  (∀ (w p p' : Nat) (c : List Nat), P 25 w p 0 [] (0, p', c) → tq_o T L 4 p' = 0 → P 4 w p 0 [] (0, p', c)) ∧
  (∀ (w p k e : Nat) (c : List Nat), P 25 w p 0 [] (k + 1, e, c) → P 4 w p 0 [] (k + 1, e, c)) ∧
  (∀ (w p p' p2 : Nat) (c c2 : List Nat), P 25 w p 0 [] (0, p', c) → tq_o T L 4 p' ≠ 0 → P 25 w (tq_e T L p') 0 [] (0, p2, c2) → P 4 w p 0 [] (0, p2, c ++ c2 ++ [20000 + tq_o T L 4 p'])) ∧
  (∀ (w p p' k e : Nat) (c c2 : List Nat), P 25 w p 0 [] (0, p', c) → tq_o T L 4 p' ≠ 0 → P 25 w (tq_e T L p') 0 [] (k + 1, e, c2) → P 4 w p 0 [] (k + 1, e, c2))
def tq_R (T : Nat → Nat) (L h m w p n : Nat) (c : List Nat) (o : Nat × Nat × List Nat) : Prop := ∀ P, tq_C T L h P → P m w p n c o
theorem tq_R.num {T : Nat → Nat} {L h : Nat} {w p : Nat} (q0 : tq_k T L p = 2) (q1 : tq_e T L p - tq_s T L p ≤ 4) : tq_R T L h 7 w p 0 [] (0, tq_e T L p, [tq_v T L p]) := fun P C => C.1 w p q0 q1
theorem tq_R.numF {T : Nat → Nat} {L h : Nat} {w p : Nat} (q0 : tq_k T L p = 2) (q1 : 4 < tq_e T L p - tq_s T L p) : tq_R T L h 7 w p 0 [] (2, tq_s T L p, []) := fun P C => C.2.1 w p q0 q1
theorem tq_R.val {T : Nat → Nat} {L h : Nat} {w p : Nat} (q0 : tq_k T L p = 1) (q1 : tq_vl h (tq_w T L p) < 9) : tq_R T L h 7 w p 0 [] (0, tq_e T L p, [10000 + tq_vl h (tq_w T L p)]) := fun P C => C.2.2.1 w p q0 q1
theorem tq_R.valF {T : Nat → Nat} {L h : Nat} {w p : Nat} (q0 : tq_k T L p = 1) (q1 : tq_vl h (tq_w T L p) = 9) : tq_R T L h 7 w p 0 [] (3, tq_s T L p, []) := fun P C => C.2.2.2.1 w p q0 q1
theorem tq_R.bad {T : Nat → Nat} {L h : Nat} {w p : Nat} (q0 : tq_k T L p ≠ 2) (q1 : tq_k T L p ≠ 1) (q2 : ¬ tq_sn T L p 40) : tq_R T L h 7 w p 0 [] (1, tq_s T L p, []) := fun P C => C.2.2.2.2.1 w p q0 q1 q2
theorem tq_R.par {T : Nat → Nat} {L h : Nat} {w p p' : Nat} {c : List Nat} (q0 : tq_sn T L p 40) (q1 : tq_R T L h 1 (w + 1) (tq_e T L p) 0 [] (0, p', c)) (q2 : tq_sn T L p' 41) : tq_R T L h 7 w p 0 [] (0, tq_e T L p', c) := fun P C => C.2.2.2.2.2.1 w p p' c q0 (q1 P C) q2
theorem tq_R.parN {T : Nat → Nat} {L h : Nat} {w p p' : Nat} {c : List Nat} (q0 : tq_sn T L p 40) (q1 : tq_R T L h 1 (w + 1) (tq_e T L p) 0 [] (0, p', c)) (q2 : ¬ tq_sn T L p' 41) : tq_R T L h 7 w p 0 [] (1, tq_s T L p', []) := fun P C => C.2.2.2.2.2.2.1 w p p' c q0 (q1 P C) q2
theorem tq_R.parF {T : Nat → Nat} {L h : Nat} {w p k e : Nat} {c : List Nat} (q0 : tq_sn T L p 40) (q1 : tq_R T L h 1 (w + 1) (tq_e T L p) 0 [] (k + 1, e, c)) : tq_R T L h 7 w p 0 [] (k + 1, e, c) := fun P C => C.2.2.2.2.2.2.2.1 w p k e c q0 (q1 P C)
theorem tq_R.deep {T : Nat → Nat} {L h : Nat} {w p : Nat} (q0 : 6 ≤ w) : tq_R T L h 1 w p 0 [] (if tq_k T L p = 2 ∨ tq_k T L p = 1 ∨ tq_sn T L p 40 then 2 else 1, tq_s T L p, []) := fun P C => C.2.2.2.2.2.2.2.2.1 w p q0
theorem tq_R.expr {T : Nat → Nat} {L h : Nat} {w p : Nat} {o : Nat × Nat × List Nat} (q0 : w < 6) (q1 : tq_R T L h 21 w p 0 [] o) : tq_R T L h 1 w p 0 [] o := fun P C => C.2.2.2.2.2.2.2.2.2.1 w p o q0 (q1 P C)
theorem tq_R.lp {T : Nat → Nat} {L h : Nat} {l w p p' : Nat} {c : List Nat} {o : Nat × Nat × List Nat} (q0 : tq_lv l) (q1 : tq_R T L h (tq_nx l) w p 0 [] (0, p', c)) (q2 : tq_R T L h (10 + l) w p' 0 c o) : tq_R T L h (20 + l) w p 0 [] o := fun P C => C.2.2.2.2.2.2.2.2.2.2.1 l w p p' c o q0 (q1 P C) (q2 P C)
theorem tq_R.lpF {T : Nat → Nat} {L h : Nat} {l w p k e : Nat} {c : List Nat} (q0 : tq_lv l) (q1 : tq_R T L h (tq_nx l) w p 0 [] (k + 1, e, c)) : tq_R T L h (20 + l) w p 0 [] (k + 1, e, c) := fun P C => C.2.2.2.2.2.2.2.2.2.2.2.1 l w p k e c q0 (q1 P C)
theorem tq_R.go {T : Nat → Nat} {L h : Nat} {l w p p' : Nat} {c c2 : List Nat} {o : Nat × Nat × List Nat} (q0 : tq_lv l) (q1 : tq_o T L l p ≠ 0) (q2 : tq_R T L h (tq_nx l) w (tq_e T L p) 0 [] (0, p', c2)) (q3 : tq_R T L h (10 + l) w p' 0 (c ++ c2 ++ [20000 + tq_o T L l p]) o) : tq_R T L h (10 + l) w p 0 c o := fun P C => C.2.2.2.2.2.2.2.2.2.2.2.2.1 l w p p' c c2 o q0 q1 (q2 P C) (q3 P C)
theorem tq_R.goF {T : Nat → Nat} {L h : Nat} {l w p k e : Nat} {c c2 : List Nat} (q0 : tq_lv l) (q1 : tq_o T L l p ≠ 0) (q2 : tq_R T L h (tq_nx l) w (tq_e T L p) 0 [] (k + 1, e, c2)) : tq_R T L h (10 + l) w p 0 c (k + 1, e, c2) := fun P C => C.2.2.2.2.2.2.2.2.2.2.2.2.2.1 l w p k e c c2 q0 q1 (q2 P C)
theorem tq_R.en {T : Nat → Nat} {L h : Nat} {l w p : Nat} {c : List Nat} (q0 : tq_lv l) (q1 : tq_o T L l p = 0) : tq_R T L h (10 + l) w p 0 c (0, p, c) := fun P C => C.2.2.2.2.2.2.2.2.2.2.2.2.2.2.1 l w p c q0 q1
theorem tq_R.not {T : Nat → Nat} {L h : Nat} {w p n : Nat} {o : Nat × Nat × List Nat} (q0 : tq_w T L p = 34) (q1 : n < 6) (q2 : tq_R T L h 3 w (tq_e T L p) (n + 1) [] o) : tq_R T L h 3 w p n [] o := fun P C => C.2.2.2.2.2.2.2.2.2.2.2.2.2.2.2.1 w p n o q0 q1 (q2 P C)
theorem tq_R.notF {T : Nat → Nat} {L h : Nat} {w p n : Nat} (q0 : tq_w T L p = 34) (q1 : n = 6) : tq_R T L h 3 w p n [] (2, tq_s T L p, []) := fun P C => C.2.2.2.2.2.2.2.2.2.2.2.2.2.2.2.2.1 w p n q0 q1
theorem tq_R.tst {T : Nat → Nat} {L h : Nat} {w p n p' : Nat} {c : List Nat} (q0 : tq_w T L p ≠ 34) (q1 : n ≤ 6) (q2 : tq_R T L h 4 w p 0 [] (0, p', c)) : tq_R T L h 3 w p n [] (0, p', c ++ List.replicate n 20003) := fun P C => C.2.2.2.2.2.2.2.2.2.2.2.2.2.2.2.2.2.1 w p n p' c q0 q1 (q2 P C)
theorem tq_R.tstF {T : Nat → Nat} {L h : Nat} {w p n k e : Nat} {c : List Nat} (q0 : tq_w T L p ≠ 34) (q1 : n ≤ 6) (q2 : tq_R T L h 4 w p 0 [] (k + 1, e, c)) : tq_R T L h 3 w p n [] (k + 1, e, c) := fun P C => C.2.2.2.2.2.2.2.2.2.2.2.2.2.2.2.2.2.2.1 w p n k e c q0 q1 (q2 P C)
theorem tq_R.t0 {T : Nat → Nat} {L h : Nat} {w p p' : Nat} {c : List Nat} (q0 : tq_R T L h 25 w p 0 [] (0, p', c)) (q1 : tq_o T L 4 p' = 0) : tq_R T L h 4 w p 0 [] (0, p', c) := fun P C => C.2.2.2.2.2.2.2.2.2.2.2.2.2.2.2.2.2.2.2.1 w p p' c (q0 P C) q1
theorem tq_R.tF {T : Nat → Nat} {L h : Nat} {w p k e : Nat} {c : List Nat} (q0 : tq_R T L h 25 w p 0 [] (k + 1, e, c)) : tq_R T L h 4 w p 0 [] (k + 1, e, c) := fun P C => C.2.2.2.2.2.2.2.2.2.2.2.2.2.2.2.2.2.2.2.2.1 w p k e c (q0 P C)
theorem tq_R.t1 {T : Nat → Nat} {L h : Nat} {w p p' p2 : Nat} {c c2 : List Nat} (q0 : tq_R T L h 25 w p 0 [] (0, p', c)) (q1 : tq_o T L 4 p' ≠ 0) (q2 : tq_R T L h 25 w (tq_e T L p') 0 [] (0, p2, c2)) : tq_R T L h 4 w p 0 [] (0, p2, c ++ c2 ++ [20000 + tq_o T L 4 p']) := fun P C => C.2.2.2.2.2.2.2.2.2.2.2.2.2.2.2.2.2.2.2.2.2.1 w p p' p2 c c2 (q0 P C) q1 (q2 P C)
theorem tq_R.t1F {T : Nat → Nat} {L h : Nat} {w p p' k e : Nat} {c c2 : List Nat} (q0 : tq_R T L h 25 w p 0 [] (0, p', c)) (q1 : tq_o T L 4 p' ≠ 0) (q2 : tq_R T L h 25 w (tq_e T L p') 0 [] (k + 1, e, c2)) : tq_R T L h 4 w p 0 [] (k + 1, e, c2) := fun P C => C.2.2.2.2.2.2.2.2.2.2.2.2.2.2.2.2.2.2.2.2.2.2 w p p' k e c c2 (q0 P C) q1 (q2 P C)
/-- the cells that the class's rules' reader writes; a: the rule -/
def pk_fX (z a : Nat) (V V' : bk_Val) : Prop := V'.2 = V.2 ∧ (∀ x, x ≠ z + 54 → x ≠ z + 55 → x ≠ a → x ≠ a + 1 → V'.1 x = V.1 x) ∧ (∀ k, k < 3 ∨ 5 < k → V'.1 (z + 54) k = V.1 (z + 54) k) ∧ ∀ k, k ≠ 2 → V'.1 a k = V.1 a k
def pk_sC (z a : Nat) (V : bk_Val) (T : Nat → Nat) (L p : Nat) (c : List Nat) : Prop := pk_PC z V T L p ∧ pk_CR V a (a + 1) c ∧ c.length ≤ p
def pk_gX (z a : Nat) (T : Nat → Nat) (L : Nat) (V : bk_Val) (c0 : List Nat) (X : Option (Int32 × bk_Val)) (o : Nat × Nat × List Nat) : Prop := (o.1 = 0 ∧ ∃ V', X = some (nI 1, V') ∧ pk_fX z a V V' ∧ pk_sC z a V' T L o.2.1 (c0 ++ o.2.2)) ∨ (o.1 ≠ 0 ∧ ∃ V', X = some (nI 0, V') ∧ pk_fX z a V V' ∧ pk_FC z V' o.1 o.2.1)
def pk_cH (N z u a h : Nat) (Y : bk_Lay) : Prop := 1000 ≤ N ∧ pk_Mn Y z ∧ pk_Sd Y u ∧ bk_rR Y (z + 54) 1 = some u ∧ z + 10 ≤ u ∧ u + 22 ≤ z + 54 ∧ a = u + 15 + 3 * h ∧ h < 2
def pk_cR (z a : Nat) (T : Nat → Nat) (L h m w n : Nat) (X : bk_Val → Option (Int32 × bk_Val)) (p : Nat) : Prop := ∃ o, tq_R T L h m w p n [] o ∧ ∀ V c0, pk_sC z a V T L p c0 → pk_gX z a T L V c0 (X V) o
section
variable {N z t u s tl r a b d k n j h m l p q q0 md wa s' i f e gg v S L g lo hi w : Nat} {Y Y' : bk_Lay} {V V' V2 W : bk_Val} {x y x1 x2 x3 x4 x5 ee : Int32} {w1 w2 : Int64} {T T' R G In : Nat → Nat} {c c0 c2 : List Nat} {o : Nat × Nat × List Nat} {X : Option (Int32 × bk_Val)}
theorem tq_o_k (h : tq_o T L l p ≠ 0) : tq_k T L p ≠ 0 ∧ tq_o T L l p < 10 ∧ 0 < tq_o T L l p ∧ tq_o T L l p ≠ 3 := by
  have h33 := (tq_w_iff (T := T) (L := L) (p := p) (k := 33) (by omega))
  have h32 := (tq_w_iff (T := T) (L := L) (p := p) (k := 32) (by omega))
  unfold tq_o at *
  by_cases l1 : l = 1
  · rw [if_pos l1] at *
    by_cases q : tq_w T L p = 33
    · rw [if_pos q]; have := h33.mp q; omega
    · rw [if_neg q] at h; omega
  rw [if_neg l1] at *
  by_cases l2 : l = 2
  · rw [if_pos l2] at *
    by_cases q : tq_w T L p = 32
    · rw [if_pos q]; have := h32.mp q; omega
    · rw [if_neg q] at h; omega
  rw [if_neg l2] at *
  by_cases l4 : l = 4
  · rw [if_pos l4] at *
    by_cases q : tq_sn T L p 60
    · rw [if_pos q]; have := q.1; omega
    · rw [if_neg q] at *
      by_cases q : tq_sn T L p 61
      · rw [if_pos q]; have := q.1; omega
      · rw [if_neg q] at h; omega
  rw [if_neg l4] at *
  by_cases l4 : l = 5
  · rw [if_pos l4] at *
    by_cases q : tq_sn T L p 43
    · rw [if_pos q]; have := q.1; omega
    · rw [if_neg q] at *
      by_cases q : tq_sn T L p 45
      · rw [if_pos q]; have := q.1; omega
      · rw [if_neg q] at h; omega
  rw [if_neg l4] at *
  by_cases l4 : l = 6
  · rw [if_pos l4] at *
    by_cases q : tq_sn T L p 42
    · rw [if_pos q]; have := q.1; omega
    · rw [if_neg q] at *
      by_cases q : tq_sn T L p 47
      · rw [if_pos q]; have := q.1; omega
      · rw [if_neg q] at h; omega
  rw [if_neg l4] at *
  omega
theorem tq_w_k (hw : tq_w T L p ≠ 35) : tq_k T L p = 1 := by
  have := tq_w_b (T := T) (L := L) (p := p)
  exact ((tq_w_iff (k := tq_w T L p) (by omega)).mp rfl).1
theorem tq_R_p (hL : L ≤ 700) (H : tq_R T L h m w p n c o) : p ≤ L → o.1 = 0 → p ≤ o.2.1 ∧ o.2.1 ≤ L ∧ o.2.2.length + p ≤ c.length + n + o.2.1 := by
  refine H (fun m w p n c o => p ≤ L → o.1 = 0 → p ≤ o.2.1 ∧ o.2.1 ≤ L ∧ o.2.2.length + p ≤ c.length + n + o.2.1) ⟨?_, ?_, ?_, ?_, ?_, ?_, ?_, ?_, ?_, ?_, ?_, ?_, ?_, ?_, ?_, ?_, ?_, ?_, ?_, ?_, ?_, ?_, ?_⟩
  · intro w p q1 q2
    intro hp _; have := tq_e_gt (T := T) hL hp (by omega); have := tq_e_le (T := T) hL hp; simp only [List.length_cons, List.length_nil]; omega
  · intro w p q1 q2
    intro hp q; exact absurd q (by simp)
  · intro w p q1 q2
    intro hp _; have := tq_e_gt (T := T) hL hp (by omega); have := tq_e_le (T := T) hL hp; simp only [List.length_cons, List.length_nil]; omega
  · intro w p q1 q2
    intro hp q; exact absurd q (by simp)
  · intro w p q1 q2 q3
    intro hp q; exact absurd q (by simp)
  · intro w p p' c q1 ih q3
    intro hp _
    have a1 := tq_e_gt (T := T) hL hp (by omega)
    have a2 := tq_e_le (T := T) hL hp
    have a3 := ih a2 rfl
    simp only [List.length_nil] at *
    have a4 := tq_e_gt (T := T) hL a3.2.1 (by omega)
    have a5 := tq_e_le (T := T) hL a3.2.1
    omega
  · intro w p p' c q1 _ q3
    intro hp q; exact absurd q (by simp)
  · intro w p k e c q1 _
    intro hp q; exact absurd q (by simp)
  · intro w p q1
    intro hp q
    refine absurd q ?_
    show ¬ (if _ then 2 else 1) = 0
    split <;> omega
  · intro w p o q1 ih
    exact ih
  · intro l w p p' c o q1 ih1 ih2
    intro hp hq
    have a1 := ih1 hp rfl
    simp only [List.length_nil] at *
    have a2 := ih2 a1.2.1 hq
    omega
  · intro l w p k e c q1 _
    intro hp q; exact absurd q (by simp)
  · intro l w p p' c c2 o q1 q2 ih1 ih2
    intro hp hq
    have a1 := tq_e_gt (T := T) hL hp (tq_o_k q2).1
    have a2 := tq_e_le (T := T) hL hp
    have a3 := ih1 a2 rfl
    simp only [List.length_nil, List.length_append, List.length_cons] at *
    have a4 := ih2 a3.2.1 hq
    omega
  · intro l w p k e c c2 q1 q2 _
    intro hp q; exact absurd q (by simp)
  · intro l w p c q1 q2
    intro hp q; exact ⟨Nat.le_refl _, hp, by simp⟩
  · intro w p n o q1 q2 ih
    intro hp hq
    have a1 := tq_e_gt (T := T) hL hp (by rw [tq_w_k (by omega)]; omega)
    have a2 := ih (tq_e_le (T := T) hL hp) hq
    omega
  · intro w p n q1 q2
    intro hp q; exact absurd q (by simp)
  · intro w p n p' c q1 q2 ih
    intro hp hq
    have a2 := ih hp rfl
    simp only [List.length_nil, List.length_append, List.length_replicate] at *
    omega
  · intro w p n k e c q1 q2 _
    intro hp q; exact absurd q (by simp)
  · intro w p p' c ih q2
    intro hp hq; exact ih hp rfl
  · intro w p k e c _
    intro hp q; exact absurd q (by simp)
  · intro w p p' p2 c c2 ih1 q2 ih2
    intro hp hq
    have a1 := ih1 hp rfl
    simp only [List.length_nil, List.length_append, List.length_cons] at *
    have a2 := tq_e_gt (T := T) hL a1.2.1 (tq_o_k q2).1
    have a3 := ih2 (tq_e_le (T := T) hL a1.2.1) trivial
    omega
  · intro w p p' k e c c2 _ q2 _
    intro hp q; exact absurd q (by simp)
theorem pk_fX.rf : pk_fX z a V V := ⟨rfl, fun _ _ _ _ _ => rfl, fun _ _ => rfl, fun _ _ => rfl⟩
theorem pk_fX.tr (h : pk_fX z a V V') (h2 : pk_fX z a V' V2) : pk_fX z a V V2 := ⟨h2.1.trans h.1, fun x q1 q2 q3 q4 => (h2.2.1 x q1 q2 q3 q4).trans (h.2.1 x q1 q2 q3 q4), fun k q => (h2.2.2.1 k q).trans (h.2.2.1 k q), fun k q => (h2.2.2.2 k q).trans (h.2.2.2 k q)⟩
theorem pk_fN.fX (h : pk_fN z V V') (ha : a + 1 < z + 54) : pk_fX z a V V' := ⟨h.1, fun x q1 q2 _ _ => h.2.1 x q1 q2, h.2.2, fun k _ => by rw [h.2.1 a (by omega) (by omega)]⟩
theorem pk_sC.fN (h : pk_sC z a V T L p c) (f : pk_fN z V V') (ha : a + 1 < z + 54) (hp : pk_PC z V' T L q) (hq : p ≤ q) : pk_sC z a V' T L q c := ⟨hp, h.2.1.of (f.2.1 a (by omega) (by omega)) (f.2.1 (a + 1) (by omega) (by omega)), by have := h.2.2; omega⟩
theorem pk_cH.ha (H : pk_cH N z u a h Y) : a + 1 < z + 54 ∧ z + 2 < a := by
  obtain ⟨-, -, -, -, h1, h2, h3, h4⟩ := H
  omega
theorem pk_cH.sh (H : pk_cH N z u a h Y) : bk_sh Y a = (1, 3) ∧ bk_rR Y a 0 = some (a + 1) ∧ bk_sh Y (a + 1) = (2, 700) := by
  obtain ⟨-, -, hS, -, h1, h2, h3, h4⟩ := H
  rcases (show h = 0 ∨ h = 1 by omega) with q | q <;> subst q <;> subst h3 <;> simp only [hS, and_true, true_and, Nat.mul_zero, Nat.add_zero, Nat.mul_one, Nat.add_assoc, Nat.reduceAdd]
/-- a step is put behind a rule -/
theorem pc_putA (H : pk_cH N z u a h Y) (h1 : pk_PC z V T L p) (hR : pk_CR V a (a + 1) c) (hl : c.length < 700) : ∃ V', q_X4_put N Y V a (pk_cs e) = some V' ∧ pk_fX z a V V' ∧ pk_PC z V' T L p ∧ pk_CR V' a (a + 1) (c ++ [e]) := by
  obtain ⟨s1, s2, s3⟩ := H.sh
  obtain ⟨a1, a2⟩ := H.ha
  obtain ⟨h2, h3⟩ := hR
  have hp := h1.2.2.1
  refine ⟨bk_wI (bk_wI V (a + 1) c.length (pk_cs e)) a 2 (nI (c.length + 1)), ?_, ⟨rfl, fun x q1 q2 q3 q4 => ?_, fun k q => ?_, fun k q => ?_⟩, ⟨⟨?_, h1.1.2⟩, ⟨?_, ?_, ?_, ?_⟩, hp, ?_⟩, ⟨?_, fun i hi => ?_⟩⟩
  · unfold q_X4_put
    have e2 : bk_rI (bk_wI V (a + 1) c.length (pk_cs e)) a 2 = nI c.length := (pk_rI_ne (by omega)).trans h2
    simp (disch := omega) only [s1, s2, s3, pk_ckT, pk_bs, pk_letE, pk_bd2E, pk_bd3E, if_true, if_false, eq_self, not_true_eq_false, not_false_eq_true, true_and, and_true, Nat.not_lt_zero, Nat.zero_le, Nat.reduceEqDiff, Nat.reduceLT, Nat.reduceLeDiff, pk_ck, h2, nI_leI, nI_clamp, pk_inE, pk_lit, e2, nI_add]
    rw [if_neg (by omega)]
  · rw [pk_rowI q3, pk_rowI q4]
  · rw [pk_rowI (by omega), pk_rowI (by omega)]
  · rw [pk_slot q, pk_rowI (by omega)]
  · intro j hj
    rw [pk_rI_ne (by omega), pk_rI_ne (by omega)]
    exact h1.1.1 j hj
  · rw [pk_rI_ne (by omega), pk_rI_ne (by omega)]
    exact h1.2.1.1
  · rw [pk_rI_ne (by omega), pk_rI_ne (by omega)]
    exact h1.2.1.2.1
  · rw [pk_rI_ne (by omega), pk_rI_ne (by omega)]
    exact h1.2.1.2.2.1
  · rw [pk_rI_ne (by omega), pk_rI_ne (by omega)]
    exact h1.2.1.2.2.2
  · rw [pk_rI_ne (by omega), pk_rI_ne (by omega)]
    exact h1.2.2.2
  · rw [pk_rI_same, if_pos rfl, List.length_append]
    rfl
  · rw [pk_rI_ne (by omega), pk_rI_same]
    rw [List.length_append, List.length_cons, List.length_nil] at hi
    by_cases hc : i = c.length
    · rw [if_pos hc, hc, List.getD_eq_getElem?_getD, List.getElem?_append_right (Nat.le_refl _), Nat.sub_self]
      rfl
    · rw [if_neg hc, h3 i (by omega), List.getD_eq_getElem?_getD, List.getD_eq_getElem?_getD, List.getElem?_append_left (by omega)]
theorem pc_put (H : pk_cH N z u a h Y) (hs : pk_sC z a V T L p c) (hl : c.length + 1 ≤ q) (hq : q ≤ p) (hL : L ≤ 700) : ∃ V', q_X4_put N Y V a (pk_cs e) = some V' ∧ pk_fX z a V V' ∧ pk_sC z a V' T L p (c ++ [e]) := by
  have hp := hs.1.2.2.1
  obtain ⟨V', e1, e2, e3, e4⟩ := pc_putA (e := e) H hs.1 hs.2.1 (by omega)
  refine ⟨V', e1, e2, e3, e4, ?_⟩
  rw [List.length_append, List.length_cons, List.length_nil]
  omega
theorem pc_word (H : pk_cH N z u a h Y) (hp : pk_PC z V T L p) (hg : 0 < g ∧ g < 36) : q_X9_isWord N Y V (z + 55) g = some (pk_B (tq_w T L p = tq_G.getD g 99)) := pc_isWord H.1 H.2.1 hp.1 hp.2.1 hp.2.2.1 hg
/-- a loop of a level -/
theorem pc_loop (H : pk_cH N z u a h Y) (hL : L ≤ 700) (hl : tq_lv l) (Q : bk_Val → Option (Int32 × bk_Val)) (hQ : ∀ p, p ≤ L → pk_cR z a T L h (tq_nx l) w 0 Q p) (Lp : Nat → bk_Val → Int32 → Option (Int32 × bk_Val))
    (ha : ∀ f V i p, pk_PC z V T L p → i ≤ 700 → tq_o T L l p = 0 → Lp (f + 1) V (nI i) = some (nI 1, V))
    (hc : ∀ f V i p, pk_PC z V T L p → i < 700 → tq_o T L l p ≠ 0 → Lp (f + 1) V (nI i) = (q_X9_step N Y V (z + 55)).bind fun V1 => bk_bd2 (Q V1) fun x V2 => if x = nI 0 then some (nI 0, V2) else (q_X4_put N Y V2 a (-nI (tq_o T L l p))).bind fun V3 => Lp f V3 (nI (i + 1))) :
    ∀ n p c, p ≤ L → L - p ≤ n → ∃ o, tq_R T L h (10 + l) w p 0 c o ∧ ∀ f V i c0, L < f + p → i ≤ p → pk_sC z a V T L p (c0 ++ c) → pk_gX z a T L V c0 (Lp f V (nI i)) o := by
  intro n
  induction n with
  | zero =>
    intro p c hp hn
    by_cases q : tq_o T L l p = 0
    · refine ⟨(0, p, c), tq_R.en hl q, fun f V i c0 hf hi hs => Or.inl ⟨rfl, V, ?_, pk_fX.rf, hs⟩⟩
      rw [show f = f - 1 + 1 by omega]
      exact ha _ V i p hs.1 (by omega) q
    · exact absurd (tq_e_gt (T := T) hL hp (tq_o_k q).1) (by have := tq_e_le (T := T) hL hp; omega)
  | succ n ih =>
    intro p c hp hn
    by_cases q : tq_o T L l p = 0
    · refine ⟨(0, p, c), tq_R.en hl q, fun f V i c0 hf hi hs => Or.inl ⟨rfl, V, ?_, pk_fX.rf, hs⟩⟩
      rw [show f = f - 1 + 1 by omega]
      exact ha _ V i p hs.1 (by omega) q
    obtain ⟨k0, k1, k2, k3⟩ := tq_o_k q
    have e1 := tq_e_gt (T := T) hL hp k0
    have e2 := tq_e_le (T := T) hL hp
    obtain ⟨⟨ok, p', c2⟩, r1, r2⟩ := hQ (tq_e T L p) e2
    rcases ok with _ | k
    · have rp := tq_R_p hL r1 e2 rfl
      simp only [List.length_nil] at rp
      obtain ⟨o, i1, i2⟩ := ih p' (c ++ c2 ++ [20000 + tq_o T L l p]) rp.2.1 (by omega)
      refine ⟨o, tq_R.go hl q r1 i1, fun f V i c0 hf hi hs => ?_⟩
      obtain ⟨V1, g1, g2, g3⟩ := pc_goes (N := N) H.1 H.2.1 hs.1
      have hs1 := hs.fN (V' := V1) g2.fN H.ha.1 g3 (by omega)
      rcases r2 V1 _ hs1 with ⟨-, V2, t1, t2, t3⟩ | ⟨t0, -⟩
      · have hln := hs.2.2
        obtain ⟨V3, b1, b2, b3⟩ := pc_put (e := 20000 + tq_o T L l p) (q := p') H t3 (by rw [List.length_append]; show (c0 ++ c).length + c2.length + 1 ≤ p'; omega) (Nat.le_refl _) hL
        rw [show pk_cs (20000 + tq_o T L l p) = -nI (tq_o T L l p) by unfold pk_cs; rw [if_neg (by omega), Nat.add_sub_cancel_left]] at b1
        have hX : Lp f V (nI i) = Lp (f - 1) V3 (nI (i + 1)) := by
          rw [show f = f - 1 + 1 by omega, hc (f - 1) V i p hs.1 (by omega) q, g1, pk_bs, t1, pk_bd2E, if_neg (show ¬ nI 1 = nI 0 by decide), b1, pk_bs]
          rfl
        rw [hX]
        have fx : pk_fX z a V V3 := ((g2.fN.fX H.ha.1).tr t2).tr b2
        have := i2 (f - 1) V3 (i + 1) c0 (by omega) (by omega) (by simp only [List.append_assoc] at b3 ⊢; exact b3)
        rcases this with ⟨y1, V4, y2, y3, y4⟩ | ⟨y1, V4, y2, y3, y4⟩
        · exact Or.inl ⟨y1, V4, y2, fx.tr y3, y4⟩
        · exact Or.inr ⟨y1, V4, y2, fx.tr y3, y4⟩
      · exact absurd rfl t0
    · refine ⟨(k + 1, p', c2), tq_R.goF hl q r1, fun f V i c0 hf hi hs => ?_⟩
      obtain ⟨V1, g1, g2, g3⟩ := pc_goes (N := N) H.1 H.2.1 hs.1
      have hs1 := hs.fN (V' := V1) g2.fN H.ha.1 g3 (by omega)
      rcases r2 V1 _ hs1 with ⟨t0, -⟩ | ⟨t0, V2, t1, t2, t3⟩
      · exact absurd t0 (by simp)
      · refine Or.inr ⟨t0, V2, ?_, (g2.fN.fX H.ha.1).tr t2, t3⟩
        rw [show f = f - 1 + 1 by omega, hc (f - 1) V i p hs.1 (by omega) q, g1, pk_bs, t1, pk_bd2E, if_pos rfl]
/-- a level that is a loop -/
theorem pc_level (H : pk_cH N z u a h Y) (hL : L ≤ 700) (hl : tq_lv l) (Q : bk_Val → Option (Int32 × bk_Val)) (hQ : ∀ p, p ≤ L → pk_cR z a T L h (tq_nx l) w 0 Q p) (Lp : Nat → bk_Val → Int32 → Option (Int32 × bk_Val))
    (ha : ∀ f V i p, pk_PC z V T L p → i ≤ 700 → tq_o T L l p = 0 → Lp (f + 1) V (nI i) = some (nI 1, V))
    (hc : ∀ f V i p, pk_PC z V T L p → i < 700 → tq_o T L l p ≠ 0 → Lp (f + 1) V (nI i) = (q_X9_step N Y V (z + 55)).bind fun V1 => bk_bd2 (Q V1) fun x V2 => if x = nI 0 then some (nI 0, V2) else (q_X4_put N Y V2 a (-nI (tq_o T L l p))).bind fun V3 => Lp f V3 (nI (i + 1)))
    (hp : p ≤ L) (Z : bk_Val → Option (Int32 × bk_Val)) (hZ : ∀ V, Z V = bk_bd2 (Q V) fun x V2 => if x = nI 0 then some (nI 0, V2) else Lp N V2 (nI 0)) : pk_cR z a T L h (20 + l) w 0 Z p := by
  obtain ⟨⟨ok, p', c2⟩, r1, r2⟩ := hQ p hp
  have hN := H.1
  rcases ok with _ | k
  · have rp := tq_R_p hL r1 hp rfl
    obtain ⟨o, i1, i2⟩ := pc_loop H hL hl Q hQ Lp ha hc (L - p') p' c2 rp.2.1 (Nat.le_refl _)
    refine ⟨o, tq_R.lp hl r1 i1, fun V c0 hs => ?_⟩
    rcases r2 V _ hs with ⟨-, V2, t1, t2, t3⟩ | ⟨t0, -⟩
    · rw [hZ, t1, pk_bd2E, if_neg (show ¬ nI 1 = nI 0 by decide)]
      rcases i2 N V2 0 c0 (by omega) (by omega) t3 with ⟨y1, V4, y2, y3, y4⟩ | ⟨y1, V4, y2, y3, y4⟩
      · exact Or.inl ⟨y1, V4, y2, t2.tr y3, y4⟩
      · exact Or.inr ⟨y1, V4, y2, t2.tr y3, y4⟩
    · exact absurd rfl t0
  · refine ⟨(k + 1, p', c2), tq_R.lpF hl r1, fun V c0 hs => ?_⟩
    rcases r2 V _ hs with ⟨t0, -⟩ | ⟨t0, V2, t1, t2, t3⟩
    · exact absurd t0 (by simp)
    · refine Or.inr ⟨t0, V2, ?_, t2, t3⟩
      rw [hZ, t1, pk_bd2E, if_pos rfl]
end
