abbrev bk_rm (f cl sl lo : Nat) : Room := { frames := f, cells := cl, slots := sl, locals := lo }
def bk_Pc (G : bk_G) (av : List Value) (Y : bk_Lay) (V : bk_Val) : Array Value → State → Prop := va_Pc av (fun U => bk_P G Y V U.heap ∧ bk_E G U ∧ G.2.2.1 ≤ U.heap.size)
theorem bk_Pc_blind {G : bk_G} {av : List Value} {Y : bk_Lay} {V : bk_Val} : FrameBlind (bk_Pc G av Y V) := fun a U g mk h => ⟨h.1, h.2.1, h.2.2.1.calling, h.2.2.2⟩
/-- a method's links: virtual, static, constructor -/
def bk_lk (own : String) (index : Nat) (y : MethodName) : Prop := Cond.methodLink own index y ∈ bk_GW ∨ ∃ host, Cond.methodLinkNest own index y host ∈ bk_nest
def bk_mc (y : MethodName) (cc : ByteArray) (nL : Nat) (ret : Option FieldType) (n : Nat) : Prop := Cond.code y cc nL ret ∈ bk_GW ∧ Cond.initialized y.cls ∈ bk_GW ∧ y.cls ≠ "java/lang/invoke/MethodHandle" ∧ y.cls ≠ "java/lang/invoke/VarHandle" ∧ (parseMethodDescriptor y.desc).map (fun d => d.parameters.length) = some n
def bk_mv (y : MethodName) : Prop := Cond.instanceMethod y ∈ bk_GW ∧ Cond.selects y.cls y y ∈ bk_GW
section
variable {p : Program} {l : Launch} {e : Env} {R : Room} {s : State} {m : MethodId} {args : Array Value} {below : List Frame} {meth : Method} {c : Code} {H : Heap} {locs : List Loc} {cells slots : Nat} {Q : State → Prop}
variable {cc : ByteArray} {pc : Nat} {ls : Array Slot} {rest : List Value} {G : bk_G} {Y Y1 : bk_Lay} {V V1 : bk_Val} {own : String} {nL : Nat} {ret : Option FieldType}
theorem bk_after {a : Array Value} {st0 : List Value} {ro : Option Value} {mc ms : Nat} (hr : va_Run p l e R s m args below meth c H locs cells slots mc ms (F0 m pc ls st0) rest (bk_Q G ro Y1 V1 a) (bk_A G)) (hH : bk_H G Y V s.heap H locs)
    (kk : ∀ (H1 : Heap) (locs1 : List Loc), bk_H G Y1 V1 s.heap H1 locs1 → W p l e R s m args below meth c H1 locs1 (cells + mc) (slots + ms) Q (F0 m (pc + 3) ls (ro.toList ++ rest))) : W p l e R s m args below meth c H locs cells slots Q (F0 m pc ls st0) := by
  intro T hT X
  obtain ⟨v, st₀, t, T', L, h0, X', hL, e1, e2, ⟨hv, hP, hE, hz, hk⟩, st⟩ := hr T hT X
  cases hv
  rw [h0] at hz hk
  have hS := hH.2.1
  obtain ⟨t2, a1, b1⟩ := kk T'.heap (locs ++ L) ⟨by rw [e1]; exact hP, ⟨Nat.le_trans hS.1 (by rw [e1]; exact hz), fun q h1 h2 => by rw [e1, hk q (Nat.lt_of_lt_of_le h1 hS.1) h2]; exact hS.2.1 q h1 h2, fun q hq => by
      rcases List.mem_append.mp hq with h | h
      · exact hS.2.2 q h
      · exact hL q h⟩, hH.2.2⟩ T' rfl X'
  exact ⟨t2, st t2 a1, b1⟩
theorem bk_recv (C : bk_C G p s m args meth c cc own nL ret) (hH : bk_H G Y V s.heap H locs) {b ci N : Nat} {C0 : String} {T : u_T} (hs : bk_sh Y b = (1, ci)) (hc : vwCl[ci]? = some (C0, T, N)) : ∃ cellB : Cell, H[b]? = some cellB ∧ cellB.vm.isStatics = false ∧ s.vm.findClass C0 = some cellB.cls := by
  obtain ⟨r, h1, cell, q1, q2, q3, q4⟩ := bk_obj hH.1 hs
  have hr : r = (C0, T, N) := Option.some.inj (h1.symm.trans hc)
  subst hr
  obtain ⟨hS, hfc, -⟩ := C.2.2.2.2.2.2.2.1.1 ci _ hc
  exact ⟨cell, q1, by rw [q3]; rfl, by rw [q2]; exact hfc⟩
theorem bk_pre (C : bk_C G p s m args meth c cc own nL ret) (hH : bk_H G Y V s.heap H locs) {av : List Value} {U : State} (hU : U.heap = H) (hW : s.WarmedH U.vm) : bk_Pc G av Y V av.toArray U :=
  ⟨rfl, by rw [hU]; exact hH.1, C.2.2.2.2.2.2.2.go hW (fun a h1 h2 => by rw [hU]; exact hH.2.1.2.1 a h1 h2), by rw [hU]; exact Nat.le_trans hH.2.2 hH.2.1.1⟩
variable {y : MethodName} {bytes : ByteArray} {maxL n mc ms index : Nat} {rty : Option FieldType} {rm : Room} {As : List Value} {ro : Option Value} {st0 : List Value}
theorem bk_callV (C : bk_C G p s m args meth c cc own nL ret) (hH : bk_H G Y V s.heap H locs) (hls : ls.size = nL) {b ci : Nat} (hM : Met l y (bk_ws y bytes maxL rty) rm (bk_Pc G (.ref b :: As) Y V) (bk_Q G ro Y1 V1) mc ms (bk_A G)) (hm : bk_mc y bytes maxL rty n) (hv : bk_mv y) (hl : bk_lk own index y) (hs : bk_sh Y b = (1, ci)) (hc : (vwCl[ci]?).map (fun q => q.1) = some y.cls)
    (hn : As.length = n) (hrc : rm.cells = mc ∧ rm.slots = ms) (hR : rm.frames + 1 ≤ R.frames ∧ 8 + (maxL + 11) + rm.locals ≤ R.locals) (hst : st0 = As.reverse ++ .ref b :: rest) (hW : (rest.map fun v => v.category).sum ≤ 8) (hdg : decode cc pc = .ok (.invokevirtual index, 3)) (hf : cells + mc ≤ R.cells ∧ slots + ms ≤ R.slots)
    (kk : ∀ (H1 : Heap) (locs1 : List Loc), bk_H G Y1 V1 s.heap H1 locs1 → W p l e R s m args below meth c H1 locs1 (cells + mc) (slots + ms) Q (F0 m (pc + 3) ls (ro.toList ++ rest))) : W p l e R s m args below meth c H locs cells slots Q (F0 m pc ls st0) := by
  obtain ⟨hx, hb, hml, hown, hts, -, -, hE⟩ := id C
  obtain ⟨m1, m2, m3, m4, m5⟩ := hm
  cases hci : vwCl[ci]? with
  | none => rw [hci] at hc; cases hc
  | some q =>
    obtain ⟨C0, T0, N0⟩ := q
    rw [hci] at hc
    have e0 : C0 = y.cls := Option.some.inj hc
    subst e0
    have hp : PreV s H y.cls b (bk_Pc G (.ref b :: As) Y V) As := ⟨bk_Pc_blind, bk_recv C hH hs hci, fun U hU hW => bk_pre C hH hU hW⟩
    have S : CallFix p m c cc nL s args bk_GW own := ⟨hx, hb, hml, hown, hts⟩
    refine bk_after (a := (Value.ref b :: As).toArray) (rest := rest) (mc := mc) (ms := ms) ?_ hH kk
    rcases hl with hl | ⟨host, hl⟩
    · exact va_runV S hM ⟨callB_of n hts (bk_good (y := y) (cc := cc) (nL := 0) (ret := none) m1) rfl hrc.1 hrc.2 (hts _ m2) (hts _ hl) ⟨m3, m4, m5⟩ hR, hts _ hv.1, hts _ hv.2⟩ hp rfl hn hls hst (lv_room hW) hdg hf
    · exact va_runVN S hM ⟨va_cnB n hts (bk_good (y := y) (cc := cc) (nL := 0) (ret := none) m1) rfl hrc.1 hrc.2 (hE.2.1 _ hl) (hts _ m2) ⟨m3, m4, m5⟩ hR, hts _ hv.1, hts _ hv.2⟩ hp rfl hn hls hst (lv_room hW) hdg hf
theorem bk_callS (C : bk_C G p s m args meth c cc own nL ret) (hH : bk_H G Y V s.heap H locs) (hls : ls.size = nL) (hM : Met l y (bk_ws y bytes maxL rty) rm (bk_Pc G As Y V) (bk_Q G ro Y1 V1) mc ms (bk_A G)) (hm : bk_mc y bytes maxL rty n) (hv : Cond.static y ∈ bk_GW) (hl : bk_lk own index y)
    (hn : As.length = n) (hrc : rm.cells = mc ∧ rm.slots = ms) (hR : rm.frames + 1 ≤ R.frames ∧ 8 + (maxL + 11) + rm.locals ≤ R.locals) (hst : st0 = As.reverse ++ rest) (hW : (rest.map fun v => v.category).sum ≤ 8) (hdg : decode cc pc = .ok (.invokestatic index, 3)) (hf : cells + mc ≤ R.cells ∧ slots + ms ≤ R.slots)
    (kk : ∀ (H1 : Heap) (locs1 : List Loc), bk_H G Y1 V1 s.heap H1 locs1 → W p l e R s m args below meth c H1 locs1 (cells + mc) (slots + ms) Q (F0 m (pc + 3) ls (ro.toList ++ rest))) : W p l e R s m args below meth c H locs cells slots Q (F0 m pc ls st0) := by
  obtain ⟨hx, hb, hml, hown, hts, -, -, hE⟩ := id C
  obtain ⟨m1, m2, m3, m4, m5⟩ := hm
  have hp : PreS s H (bk_Pc G As Y V) As := ⟨bk_Pc_blind, fun U hU hW => bk_pre C hH hU hW⟩
  have S : CallFix p m c cc nL s args bk_GW own := ⟨hx, hb, hml, hown, hts⟩
  refine bk_after (a := As.toArray) (rest := rest) (mc := mc) (ms := ms) ?_ hH kk
  rcases hl with hl | ⟨host, hl⟩
  · exact va_runS S hM ⟨callB_of n hts (bk_good (y := y) (cc := cc) (nL := 0) (ret := none) m1) rfl hrc.1 hrc.2 (hts _ m2) (hts _ hl) ⟨m3, m4, m5⟩ hR, hts _ hv⟩ hp rfl hn hls hst (lv_room hW) hdg hf
  · exact va_runSN S hM ⟨va_cnB n hts (bk_good (y := y) (cc := cc) (nL := 0) (ret := none) m1) rfl hrc.1 hrc.2 (hE.2.1 _ hl) (hts _ m2) ⟨m3, m4, m5⟩ hR, hts _ hv, trivial⟩ hp rfl hn hls hst (lv_room hW) hdg hf
theorem bk_callI (C : bk_C G p s m args meth c cc own nL ret) (hH : bk_H G Y V s.heap H locs) (hls : ls.size = nL) {b : Nat} (hM : Met l y (bk_ws y bytes maxL none) rm (bk_Pc G (.ref b :: As) Y V) (bk_Q G none Y1 V1) mc ms (bk_A G)) (hm : bk_mc y bytes maxL none n) (hin : Cond.instanceMethod y ∈ bk_GW) (hy1 : y.name = "<init>") (hl : bk_lk own index y)
    (hn : As.length = n) (hrc : rm.cells = mc ∧ rm.slots = ms) (hR : rm.frames + 1 ≤ R.frames ∧ 8 + (maxL + 11) + rm.locals ≤ R.locals) (hst : st0 = As.reverse ++ .ref b :: rest) (hW : (rest.map fun v => v.category).sum ≤ 8) (hdg : decode cc pc = .ok (.invokespecial index, 3)) (hf : cells + mc ≤ R.cells ∧ slots + ms ≤ R.slots)
    (kk : ∀ (H1 : Heap) (locs1 : List Loc), bk_H G Y1 V1 s.heap H1 locs1 → W p l e R s m args below meth c H1 locs1 (cells + mc) (slots + ms) Q (F0 m (pc + 3) ls rest)) : W p l e R s m args below meth c H locs cells slots Q (F0 m pc ls st0) := by
  obtain ⟨hx, hb, hml, hown, hts, -, -, hE⟩ := id C
  obtain ⟨m1, m2, m3, m4, m5⟩ := hm
  have hp : PreS s H (bk_Pc G (.ref b :: As) Y V) (.ref b :: As) := ⟨bk_Pc_blind, fun U hU hW => bk_pre C hH hU hW⟩
  have S : CallFix p m c cc nL s args bk_GW own := ⟨hx, hb, hml, hown, hts⟩
  refine bk_after (a := (Value.ref b :: As).toArray) (rest := rest) (ro := none) (mc := mc) (ms := ms) ?_ hH kk
  rcases hl with hl | ⟨host, hl⟩
  · exact va_runI S hM ⟨callB_of n hts (bk_good (y := y) (cc := cc) (nL := 0) (ret := none) m1) rfl hrc.1 hrc.2 (hts _ m2) (hts _ hl) ⟨m3, m4, m5⟩ hR, hy1, hts _ hin⟩ hp rfl hn hls hst (lv_room hW) hdg hf
  · exact va_runIN S hM ⟨va_cnB n hts (bk_good (y := y) (cc := cc) (nL := 0) (ret := none) m1) rfl hrc.1 hrc.2 (hE.2.1 _ hl) (hts _ m2) ⟨m3, m4, m5⟩ hR, hy1, hts _ hin⟩ hp rfl hn hls hst (lv_room hW) hdg hf
/-! new cells -/
theorem bk_H.grow {s9 : Nat × Nat} {H1 : Heap} (hH : bk_H G Y V s.heap H locs) (hc : bk_cell G (bk_nw Y s9) (bk_nz Y V) Y.2.2 H1) (z : H1.size = H.size + 1) (oq : ∀ q : Nat, q < H.size → H1[q]? = H[q]?) : bk_H G (bk_nw Y s9) (bk_nz Y V) s.heap H1 locs :=
  ⟨hH.1.new (Nat.le_trans hH.2.2 hH.2.1.1) hc z oq, ⟨Nat.le_trans hH.2.1.1 (by omega), fun x h1 h2 => (oq x (Nat.lt_of_lt_of_le h1 hH.2.1.1)).trans (hH.2.1.2.1 x h1 h2), hH.2.1.2.2⟩, hH.2.2⟩
theorem bk_new (C : bk_C G p s m args meth c cc own nL ret) (hH : bk_H G Y V s.heap H locs) {ci N : Nat} {C0 : String} {T : u_T} {ty : Nat → FieldType} (hok : bk_ok ci C0 T N ty) (hcl : Cond.classLink own index C0 ∈ bk_GW) (hinst : Cond.instantiable C0 N ∈ bk_GW) (hini : Cond.initialized C0 ∈ bk_GW) (hcells : cells + 1 ≤ R.cells) (hslots : slots + N ≤ R.slots) (hdg : decode cc pc = .ok (.new index, 3))
    (kk : ∀ (Y1 : bk_Lay) (V1 : bk_Val) (H1 : Heap), Y1 = bk_nw Y (1, ci) → V1 = bk_nz Y V → bk_H G Y1 V1 s.heap H1 locs → W p l e R s m args below meth c H1 locs (cells + 1) (slots + N) Q (F0 m (pc + 3) ls (.ref (bk_sz Y) :: rest))) : W p l e R s m args below meth c H locs cells slots Q (F0 m pc ls rest) := by
  obtain ⟨hx, hb, hml, hown, hts, -, -, hE⟩ := id C
  obtain ⟨hc, hin, hty, hnm, hdf⟩ := hok
  have hKn := hE.1.1 ci _ hc
  refine W.newcK hx hb hown (hts _ hcl) (hts _ hinst) (hts _ hini) rfl hdg hcells hslots hKn.2.1 (h := bk_sz Y) hH.1.1 fun H1 kC hkC e1 z1 o1 => ?_
  refine kk _ _ H1 rfl rfl (hH.grow (bk_cell_obj (by show va_up Y.1 Y.2.2 (1, ci) Y.2.2 = _; rw [va_up_self]) ⟨_, hc, t_OB.to (u_born ty hts hin hKn hkC e1 hty) (fun j hj => ?_)⟩) (by rw [z1, hH.1.1]; rfl) (fun q hq => o1 q (by show q < Y.2.2; rw [← hH.1.1]; exact hq)))
  rw [hdf j hj]
  show _ = bk_fv _ _ _ _ _
  unfold bk_fv
  split
  · simp [bk_nz, va_up_self]
  · split
    · simp [bk_nz, va_up_self]
    · simp [bk_nw, va_up_self, va_rf]
theorem bk_newa (C : bk_C G p s m args meth c cc own nL ret) (hH : bk_H G Y V s.heap H locs) {atype : ArrayType} {t K : Nat} (hat : (atype = .int ∧ t = 2) ∨ (atype = .long ∧ t = 3) ∨ (atype = .byte ∧ t = 4) ∨ (atype = .boolean ∧ t = 5)) (harr : Cond.arrayClass (newarray.typeOf atype) ∈ bk_GW) {x : Int32} (hx0 : ¬ x < 0) (hK : x.toNatClampNeg ≤ K) (hK2 : K ≤ 60000) (hcells : cells + 1 ≤ R.cells) (hslots : slots + K ≤ R.slots) (hdg : decode cc pc = .ok (.newarray atype, 2))
    (kk : ∀ (Y1 : bk_Lay) (V1 : bk_Val) (H1 : Heap), Y1 = bk_nw Y (t, x.toNatClampNeg) → V1 = bk_nz Y V → bk_H G Y1 V1 s.heap H1 locs → W p l e R s m args below meth c H1 locs (cells + 1) (slots + K) Q (F0 m (pc + 2) ls (.ref (bk_sz Y) :: rest))) : W p l e R s m args below meth c H locs cells slots Q (F0 m pc ls (.int x :: rest)) := by
  obtain ⟨hx, hb, hml, hown, hts, -, -, hE⟩ := id C
  have k0 := (hE.1.2 0 _ rfl).2
  have k1 := (hE.1.2 1 _ rfl).2
  have k2 := (hE.1.2 2 _ rfl).2
  have k3 := (hE.1.2 3 _ rfl).2
  have hby : x.toNatClampNeg * componentBytes (newarray.typeOf atype) ≤ 536870912 := by
    have : componentBytes (newarray.typeOf atype) ≤ 8 := by cases atype <;> decide
    calc _ ≤ K * 8 := Nat.mul_le_mul hK this
      _ ≤ _ := by omega
  refine va_newaK hx hb (hts _ harr) (g := F0 m pc ls (.int x :: rest)) rfl hdg rfl hx0 rfl hby hcells (by omega) (h := bk_sz Y) hH.1.1 fun H1 cA e1 z1 o1 hAr hNm => ?_
  refine W.widen (k := cells + 1) (n := slots + K) (Nat.le_refl _) (by omega) ?_
  refine kk _ _ H1 rfl rfl (hH.grow ?_ (by rw [z1, hH.1.1]; rfl) (fun q hq => o1 q (by show q < Y.2.2; rw [← hH.1.1]; exact hq)))
  rcases hat with ⟨rfl, rfl⟩ | ⟨rfl, rfl⟩ | ⟨rfl, rfl⟩ | ⟨rfl, rfl⟩
  · refine bk_cell_I (t := 2) (n := x.toNatClampNeg) (by show va_up Y.1 Y.2.2 _ Y.2.2 = _; rw [va_up_self]) (Or.inl rfl) (e1.trans ?_)
    have e2 : cA = G.2.1 2 := Option.some.inj (hNm.symm.trans k0)
    rw [e2]; simp [bk_nz, va_up_self, newarray.typeOf, defaultValue]
  · refine bk_cell_L (n := x.toNatClampNeg) (by show va_up Y.1 Y.2.2 _ Y.2.2 = _; rw [va_up_self]) (e1.trans ?_)
    have e2 : cA = G.2.1 3 := Option.some.inj (hNm.symm.trans k1)
    rw [e2]; simp [bk_nz, va_up_self, newarray.typeOf, defaultValue]
  · refine bk_cell_I (t := 4) (n := x.toNatClampNeg) (by show va_up Y.1 Y.2.2 _ Y.2.2 = _; rw [va_up_self]) (Or.inr (Or.inl rfl)) (e1.trans ?_)
    have e2 : cA = G.2.1 4 := Option.some.inj (hNm.symm.trans k2)
    rw [e2]; simp [bk_nz, va_up_self, newarray.typeOf, defaultValue]
  · refine bk_cell_I (t := 5) (n := x.toNatClampNeg) (by show va_up Y.1 Y.2.2 _ Y.2.2 = _; rw [va_up_self]) (Or.inr (Or.inr rfl)) (e1.trans ?_)
    have e2 : cA = G.2.1 5 := Option.some.inj (hNm.symm.trans k3)
    rw [e2]; simp [bk_nz, va_up_self, newarray.typeOf, defaultValue]
/-- java.lang.Object's constructor -/
theorem bk_obin (C : bk_C G p s m args meth c cc own nL ret) (hls : ls.size = nL) {a : Nat} (hl : Cond.methodLink own index Lib.objectInit ∈ bk_GW) (hi : Cond.instanceMethod Lib.objectInit ∈ bk_GW) (hcd : Cond.code Lib.objectInit ⟨#[0xb1]⟩ 1 none ∈ bk_GW) (hdg : decode cc pc = .ok (.invokespecial index, 3)) (hframes : 1 ≤ R.frames) (hlocals : 2 * 0 + (rest.map fun v => v.category).sum + 12 ≤ R.locals)
    (kk : W p l e R s m args below meth c H locs cells slots Q (F0 m (pc + 3) ls rest)) : W p l e R s m args below meth c H locs cells slots Q (F0 m pc ls (.ref a :: rest)) := by
  obtain ⟨hx, hb, hml, hown, hts, -, -, hE⟩ := id C
  exact W.objInit hx hb hown (hts _ hl) (hts _ hi) (hts _ hcd) (g := F0 m pc ls (.ref a :: rest)) rfl (by rw [hml]; exact hls) rfl hdg hframes hlocals kk
end
theorem bk_met {l : Launch} {G : bk_G} {y : MethodName} {cc : ByteArray} {nL : Nat} {ret : Option FieldType} {rm : Room} {av : List Value} {Y : bk_Lay} {V : bk_Val} {Qc : Array Value → State → Outcome → State → Prop} {mc ms : Nat} (hy : plainName y.cls = true) (hlen : (lg_sl av).length ≤ nL)
    (body : ∀ (p : Program) (e : Env) (s : State) (m : MethodId) (args : Array Value) (below : List Frame) (meth : Method) (c : Code) (ls : Array Slot), bk_C G p s m args meth c cc y.cls nL ret → meth.name = y.name → bk_H G Y V s.heap s.heap [] → lv_has ls nL (lv_args 0 av) → W p l e rm s m args below meth c s.heap [] 0 0 (MQ below Qc args s mc ms (bk_A G)) (F0 m 0 ls [])) :
    Met l y (bk_ws y cc nL ret) rm (bk_Pc G av Y V) Qc mc ms (bk_A G) := by
  refine Met.ofW (cc := cc) (maxL := nL) (ret := ret) hy rfl ?_
  intro p e s m args below meth c s₁ B hml hv
  obtain ⟨rfl, hP, hE, hz⟩ := hv
  have hts := atoms_spec (ws := bk_ws y cc nL ret) B.pre
  have hl := lv_entry av (n := nL) hlen
  rw [lg_entry_eq]
  exact body p e s m _ below meth c _ ⟨B.exec, B.bytes, hml, findClass_of_methodNamed B.named, fun w hw => hts w (List.mem_cons_of_mem _ hw), B.returns, B.notSynchronized, hE⟩ (name_of_methodNamed B.named B.method).1 ⟨hP, va_S.rf, hz⟩ hl
theorem bk_ofWF {l : Launch} {y : MethodName} {ws ws' : List Cond} {rm : Room} {Pc : Array Value → State → Prop} {Qc : Array Value → State → Outcome → State → Prop} {mc ms : Nat} {free : Addr → Prop} {cc : ByteArray} {maxL : Nat} {ret : Option FieldType} (hy : plainFor y = true) (hw : ws = Cond.code y cc maxL ret :: ws')
    (body : ∀ p e s m args below meth c s₁, BodyLoose p l y (headSpec ws rm) cc maxL ret e s m args below meth c s₁ → c.maxLocals = maxL → Pc args s → W p l e (headSpec ws rm).room s m args below meth c s.heap [] 0 0 (MQ below Qc args s mc ms free) (entryFrame m args maxL)) : Met l y ws rm Pc Qc mc ms free := by
  refine MetFree.of_bodySF (code := cc) (maxLocals := maxL) (ret := ret) hy ?_ ?_
  · intro args s m h hn
    obtain ⟨meth, c, h1, h2, h3, h4, h5, h6, -, -⟩ := Cond.code_spec hn (atoms_spec (ws := ws) h _ (by rw [hw]; exact List.mem_cons_self))
    exact ⟨meth, c, h1, h2, h3, h4, h5, h6⟩
  · intro p e s m args below meth c s₁ B hml hP _
    have hh0 : s₁.heap = s.heap := by rw [B.state]; rfl
    obtain ⟨t, a1, o, b1, b2, b3⟩ := body p e s m args below meth c s₁ B hml hP s₁ hh0 (Stand.of_body B)
    exact ⟨t, o, a1, b1, b2, ⟨b3.1, b3.2⟩⟩
theorem bk_metF {l : Launch} {G : bk_G} {y : MethodName} {cc : ByteArray} {nL : Nat} {ret : Option FieldType} {rm : Room} {av : List Value} {Y : bk_Lay} {V : bk_Val} {Qc : Array Value → State → Outcome → State → Prop} {mc ms : Nat} (hy : plainFor y = true) (hlen : (lg_sl av).length ≤ nL)
    (body : ∀ (p : Program) (e : Env) (s : State) (m : MethodId) (args : Array Value) (below : List Frame) (meth : Method) (c : Code) (ls : Array Slot), bk_C G p s m args meth c cc y.cls nL ret → meth.name = y.name → bk_H G Y V s.heap s.heap [] → lv_has ls nL (lv_args 0 av) → W p l e rm s m args below meth c s.heap [] 0 0 (MQ below Qc args s mc ms (bk_A G)) (F0 m 0 ls [])) :
    Met l y (bk_ws y cc nL ret) rm (bk_Pc G av Y V) Qc mc ms (bk_A G) := by
  refine bk_ofWF (cc := cc) (maxL := nL) (ret := ret) hy rfl ?_
  intro p e s m args below meth c s₁ B hml hv
  obtain ⟨rfl, hP, hE, hz⟩ := hv
  have hts := atoms_spec (ws := bk_ws y cc nL ret) B.pre
  have hl := lv_entry av (n := nL) hlen
  rw [lg_entry_eq]
  exact body p e s m _ below meth c _ ⟨B.exec, B.bytes, hml, findClass_of_methodNamed B.named, fun w hw => hts w (List.mem_cons_of_mem _ hw), B.returns, B.notSynchronized, hE⟩ (name_of_methodNamed B.named B.method).1 ⟨hP, va_S.rf, hz⟩ hl
