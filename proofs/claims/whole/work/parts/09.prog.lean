/-! the words of programs -/
def bk_let {α β : Type} (x : α) (f : α → Option β) : Option β := f x
theorem bk_let_eq {α β : Type} {x z : α} {f : α → Option β} {o : β} (h : z = x) (hq : bk_let x f = some o) : f z = some o := by subst h; exact hq
def bk_bd2 {α β γ : Type} (x : Option (α × β)) (f : α → β → Option γ) : Option γ := match x with
  | some y => f y.1 y.2
  | none => none
theorem bk_bd2_some {α β γ : Type} {x : Option (α × β)} {f : α → β → Option γ} {o : γ} (h : bk_bd2 x f = some o) : ∃ a b, x = some (a, b) ∧ f a b = some o := by
  cases x with
  | none => cases h
  | some y => exact ⟨y.1, y.2, rfl, h⟩
def bk_bd3 {α β γ δ : Type} (x : Option (α × β × γ)) (f : α → β → γ → Option δ) : Option δ := match x with
  | some y => f y.1 y.2.1 y.2.2
  | none => none
theorem bk_bd3_some {α β γ δ : Type} {x : Option (α × β × γ)} {f : α → β → γ → Option δ} {o : δ} (h : bk_bd3 x f = some o) : ∃ a b c, x = some (a, b, c) ∧ f a b c = some o := by
  cases x with
  | none => cases h
  | some y => exact ⟨y.1, y.2.1, y.2.2, rfl, h⟩
def bk_nl {α : Type} (r : Option Nat) (x : Option α) (f : Nat → Option α) : Option α := match r with
  | none => x
  | some b => f b
theorem bk_nl_cases {α : Type} {r : Option Nat} {x : Option α} {f : Nat → Option α} {o : α} (h : bk_nl r x f = some o) : (r = none ∧ x = some o) ∨ ∃ b, r = some b ∧ f b = some o := by
  cases r with
  | none => exact Or.inl ⟨rfl, h⟩
  | some b => exact Or.inr ⟨b, rfl, h⟩
abbrev bk_in (i : Int32) (n : Nat) : Prop := ¬ i < 0 ∧ i.toNatClampNeg < n
theorem bk_in_vp {i : Int32} {n : Nat} (h : bk_in i n) : vp_in i n := fun q => q.elim h.1 (fun q => Nat.not_le.mpr h.2 q)
theorem bk_arr {Y : bk_Lay} {a t : Nat} (h : (bk_sh Y a).1 = t) : bk_sh Y a = (t, (bk_sh Y a).2) := by rw [← h]
def bk_rem (x y : Int32) : Int32 := x - x / y * y
def bk_remL (x y : Int64) : Int64 := x - x / y * y
def bk_shl (x y : Int32) : Int32 := x <<< (y &&& 31)
def bk_shr (x y : Int32) : Int32 := x >>> (y &&& 31)
def bk_ushr (x y : Int32) : Int32 := (x.toUInt32 >>> (y.toUInt32 &&& Int32.toUInt32 31)).toInt32
def bk_shlL (x : Int64) (y : Int32) : Int64 := x <<< (y.toInt64 &&& 63)
def bk_shrL (x : Int64) (y : Int32) : Int64 := x >>> (y.toInt64 &&& 63)
def bk_i2c (x : Int32) : Int32 := (x.toUInt32 % 65536).toInt32
def bk_i2b (x : Int32) : Int32 := x.toInt8.toInt32
theorem bk_neI {x : Int32} {k : Int} (h : ¬ x = Int32.ofInt k) (h1 : -2147483648 ≤ k) (h2 : k ≤ 2147483647) : x.toInt ≠ k := by
  intro e
  apply h
  rw [← e, Int32.ofInt_toInt]
section
variable {p : Program} {l : Launch} {e : Env} {R : Room} {s : State} {m : MethodId} {args : Array Value} {below : List Frame} {meth : Method} {c : Code} {H : Heap} {locs : List Loc} {cells slots : Nat} {Q : State → Prop}
variable {cc : ByteArray} {pc : Nat} {ls : Array Slot} {rest : List Value} {G : bk_G} {own : String} {nL : Nat} {ret : Option FieldType}
theorem bk_irem (hx : p.tables.exec = Jvm.exec) (hb : c.code = cc) {x y : Int32} (hdg : decode cc pc = .ok (.irem, 1)) (hne : ¬ y = 0) (k : W p l e R s m args below meth c H locs cells slots Q (F0 m (pc + 1) ls (.int (bk_rem x y) :: rest))) : W p l e R s m args below meth c H locs cells slots Q (F0 m pc ls (.int y :: .int x :: rest)) := lv_irem hx hb hdg hne k
theorem bk_lrem (hx : p.tables.exec = Jvm.exec) (hb : c.code = cc) {x y : Int64} (hdg : decode cc pc = .ok (.lrem, 1)) (hne : ¬ y = 0) (k : W p l e R s m args below meth c H locs cells slots Q (F0 m (pc + 1) ls (.long (bk_remL x y) :: rest))) : W p l e R s m args below meth c H locs cells slots Q (F0 m pc ls (.long y :: .long x :: rest)) := lv_lrem hx hb hdg hne k
theorem bk_ishl (hx : p.tables.exec = Jvm.exec) (hb : c.code = cc) {x y : Int32} (hdg : decode cc pc = .ok (.ishl, 1)) (k : W p l e R s m args below meth c H locs cells slots Q (F0 m (pc + 1) ls (.int (bk_shl x y) :: rest))) : W p l e R s m args below meth c H locs cells slots Q (F0 m pc ls (.int y :: .int x :: rest)) := lv_ishl hx hb hdg k
theorem bk_ishr (hx : p.tables.exec = Jvm.exec) (hb : c.code = cc) {x y : Int32} (hdg : decode cc pc = .ok (.ishr, 1)) (k : W p l e R s m args below meth c H locs cells slots Q (F0 m (pc + 1) ls (.int (bk_shr x y) :: rest))) : W p l e R s m args below meth c H locs cells slots Q (F0 m pc ls (.int y :: .int x :: rest)) := lv_ishr hx hb hdg k
theorem bk_iushr (hx : p.tables.exec = Jvm.exec) (hb : c.code = cc) {x y : Int32} (hdg : decode cc pc = .ok (.iushr, 1)) (k : W p l e R s m args below meth c H locs cells slots Q (F0 m (pc + 1) ls (.int (bk_ushr x y) :: rest))) : W p l e R s m args below meth c H locs cells slots Q (F0 m pc ls (.int y :: .int x :: rest)) := lv_iushr hx hb hdg rfl k
theorem bk_lshl (hx : p.tables.exec = Jvm.exec) (hb : c.code = cc) {x : Int64} {y : Int32} (hdg : decode cc pc = .ok (.lshl, 1)) (k : W p l e R s m args below meth c H locs cells slots Q (F0 m (pc + 1) ls (.long (bk_shlL x y) :: rest))) : W p l e R s m args below meth c H locs cells slots Q (F0 m pc ls (.int y :: .long x :: rest)) := lv_lshl hx hb hdg rfl k
theorem bk_lshr (hx : p.tables.exec = Jvm.exec) (hb : c.code = cc) {x : Int64} {y : Int32} (hdg : decode cc pc = .ok (.lshr, 1)) (k : W p l e R s m args below meth c H locs cells slots Q (F0 m (pc + 1) ls (.long (bk_shrL x y) :: rest))) : W p l e R s m args below meth c H locs cells slots Q (F0 m pc ls (.int y :: .long x :: rest)) := lv_lshr hx hb hdg rfl k
theorem bk_i2l (hx : p.tables.exec = Jvm.exec) (hb : c.code = cc) {x : Int32} (hdg : decode cc pc = .ok (.i2l, 1)) (k : W p l e R s m args below meth c H locs cells slots Q (F0 m (pc + 1) ls (.long x.toInt64 :: rest))) : W p l e R s m args below meth c H locs cells slots Q (F0 m pc ls (.int x :: rest)) := lv_i2l hx hb hdg rfl k
theorem bk_l2i (hx : p.tables.exec = Jvm.exec) (hb : c.code = cc) {x : Int64} (hdg : decode cc pc = .ok (.l2i, 1)) (k : W p l e R s m args below meth c H locs cells slots Q (F0 m (pc + 1) ls (.int x.toInt32 :: rest))) : W p l e R s m args below meth c H locs cells slots Q (F0 m pc ls (.long x :: rest)) := lv_l2i hx hb hdg rfl k
theorem bk_xi2b (hx : p.tables.exec = Jvm.exec) (hb : c.code = cc) {x : Int32} (hdg : decode cc pc = .ok (.i2b, 1)) (k : W p l e R s m args below meth c H locs cells slots Q (F0 m (pc + 1) ls (.int (bk_i2b x) :: rest))) : W p l e R s m args below meth c H locs cells slots Q (F0 m pc ls (.int x :: rest)) := lv_i2b hx hb hdg rfl k
theorem bk_xi2c (hx : p.tables.exec = Jvm.exec) (hb : c.code = cc) {x : Int32} (hdg : decode cc pc = .ok (.i2c, 1)) (k : W p l e R s m args below meth c H locs cells slots Q (F0 m (pc + 1) ls (.int (bk_i2c x) :: rest))) : W p l e R s m args below meth c H locs cells slots Q (F0 m pc ls (.int x :: rest)) := lv_i2c hx hb hdg rfl k
theorem bk_ldc (C : bk_C G p s m args meth c cc own nL ret) {index : Nat} {v : Int32} (hw : Cond.constant own index v ∈ bk_GW) (hdg : decode cc pc = .ok (.ldc index, 2)) (k : W p l e R s m args below meth c H locs cells slots Q (F0 m (pc + 2) ls (.int v :: rest))) : W p l e R s m args below meth c H locs cells slots Q (F0 m pc ls rest) := lv_ldc C.1 C.2.1 C.2.2.2.1 (C.2.2.2.2.1 _ hw) hdg k
theorem bk_ldcw (C : bk_C G p s m args meth c cc own nL ret) {index : Nat} {v : Int32} (hw : Cond.constant own index v ∈ bk_GW) (hdg : decode cc pc = .ok (.ldc_w index, 3)) (k : W p l e R s m args below meth c H locs cells slots Q (F0 m (pc + 3) ls (.int v :: rest))) : W p l e R s m args below meth c H locs cells slots Q (F0 m pc ls rest) := lv_ldcw C.1 C.2.1 C.2.2.2.1 (C.2.2.2.2.1 _ hw) hdg k
theorem bk_ldc2 (C : bk_C G p s m args meth c cc own nL ret) {index : Nat} {v : Int64} (hw : Cond.constantLong own index v ∈ bk_GW) (hdg : decode cc pc = .ok (.ldc2_w index, 3)) (k : W p l e R s m args below meth c H locs cells slots Q (F0 m (pc + 3) ls (.long v :: rest))) : W p l e R s m args below meth c H locs cells slots Q (F0 m pc ls rest) := lv_ldc2 C.1 C.2.1 C.2.2.2.1 (C.2.2.2.2.1 _ hw) hdg k
end
