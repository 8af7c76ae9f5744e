/-! the law's helpers: calls whose throws are caught by the method's own table -/
section
variable {p : Program} {l : Launch} {e : Env} {R : Room} {s : State} {m : MethodId} {args : Array Value} {below : List Frame} {meth : Method} {c : Code} {H : Heap} {locs : List Loc} {cells slots : Nat} {Q : State → Prop}
variable {cc : ByteArray} {pc : Nat} {ls : Array Slot} {rest : List Value} {G : bk_G} {Y Y1 : bk_Lay} {V V1 : bk_Val} {own : String} {nL : Nat} {ret : Option FieldType}
variable {y : MethodName} {bytes : ByteArray} {maxL n mc ms index : Nat} {rty : Option FieldType} {rm : Room} {As : List Value} {ro : Option Value} {st0 : List Value}
theorem bk_callVk {α : Type} {f : α → Array Value → State → Outcome → State → Prop} {e9 : Nat} (C : bk_C G p s m args meth c cc own nL ret) (hH : bk_H G Y V s.heap H locs) (hls : ls.size = nL) {b ci : Nat} (hM : vx_Met l y (bk_ws y bytes maxL rty) rm (bk_Pc G (.ref b :: As) Y V) (bk_QX f (.inl e9)) (bk_XC G Y V (.inl e9 : Nat ⊕ α)) mc ms (bk_A G)) (hm : bk_mc y bytes maxL rty n) (hv : bk_mv y) (hl : Cond.methodLink own index y ∈ bk_GW) (hs : bk_sh Y b = (1, ci)) (hc : (vwCl[ci]?).map (fun q => q.1) = some y.cls)
    (hn : As.length = n) (hrc : rm.cells = mc ∧ rm.slots = ms) (hR : rm.frames + 1 ≤ R.frames ∧ 8 + (maxL + 11) + rm.locals ≤ R.locals) (hst : st0 = As.reverse ++ .ref b :: rest) (hW : (rest.map fun v => v.category).sum ≤ 8) (hdg : decode cc pc = .ok (.invokevirtual index, 3)) (hf : cells + mc ≤ R.cells ∧ slots + ms ≤ R.slots)
    (pre : List ExceptionTableEntry) (x : ExceptionTableEntry) (suf : List ExceptionTableEntry) (hsplit : c.exceptionTable.toList = pre ++ x :: suf) (hpass : ∀ z ∈ pre, z.catchType ≠ 0 ∧ ∃ nm : String, Cond.classLink own z.catchType nm ∈ bk_GW ∧ va_Nc (bk_exc e9) nm s) (hx9 : covers x pc = true) (h0 : x.catchType ≠ 0) (hlk : Cond.classLink own x.catchType (bk_exc e9) ∈ bk_GW) (hcast : Cond.castable (bk_exc e9) (bk_exc e9) ∈ bk_nest)
    (kk : ∀ (q z : Nat) (H1 : Heap) (locs1 : List Loc), bk_sz Y ≤ z → bk_H G (Y.1, Y.2.1, z) V s.heap H1 locs1 → W p l e R s m args below meth c H1 locs1 (cells + mc) (slots + ms) Q (F0 m x.handlerPc ls [.ref q])) :
    W p l e R s m args below meth c H locs cells slots Q (F0 m pc ls st0) := by
  obtain ⟨hx, hb, hml, hown, hts, -, hlocks, hE⟩ := id C
  obtain ⟨m1, m2, m3, m4, m5⟩ := hm
  cases hci : vwCl[ci]? with
  | none => rw [hci] at hc; cases hc
  | some q =>
    obtain ⟨C0, T0, N0⟩ := q
    rw [hci] at hc
    have e0 : C0 = y.cls := Option.some.inj hc
    subst e0
    have hp : PreV s H y.cls b (bk_Pc G (.ref b :: As) Y V) As := ⟨bk_Pc_blind, bk_recv C hH hs hci, fun U hU hW => bk_pre C hH hU hW⟩
    have S : CallFix p m c cc nL s args bk_GW own := ⟨hx, hb, hml, hown, hts⟩
    have hr := vx_runV (g := F0 m pc ls st0) (e := e) (below := below) (meth := meth) (locs := locs) (cells := cells) (slots := slots) S hM ⟨callB_of n hts (bk_good (y := y) (cc := cc) (nL := 0) (ret := none) m1) rfl hrc.1 hrc.2 (hts _ m2) (hts _ hl) ⟨m3, m4, m5⟩ hR, hts _ hv.1, hts _ hv.2⟩ hp rfl hn hls hst (lv_room hW) hdg hf
    intro T hT X
    rcases hr T hT X with ⟨v, st₀, t, T', L, h0', X', hL, e1, e2, hq, -⟩ | ⟨q, st₀, t, T', L, E, ce, h0', X', hL, e1, e2, hxc, hce, hcv, hcl, st⟩
    · exact absurd hq (fun h => h)
    · obtain ⟨e8, g1, g2, ⟨z, g3, g4⟩, g5⟩ := hxc
      cases g1
      subst g2
      obtain ⟨k1, k2, k3⟩ := vx_keep h0' e1 hH.2.1 (fun q _ h => h) (fun q h => h) hL g5
      have hcast' : (Cond.castable (bk_exc e9) (bk_exc e9)).before args s = true := (hE.2.1 _ hcast).use rfl
      obtain ⟨t2, a1, b1⟩ := vx_catch (p := p) (l := l) (e := e) (R := R) (args := args) (below := below) (ls := ls) (rest := rest) (pc := pc) (Q := Q) (H := T'.heap) (E := bk_exc e9) hown pre x suf hsplit (fun z hz => by
        obtain ⟨p1, nm, p2, p3⟩ := hpass z hz
        exact Or.inr ⟨p1, nm, hts _ p2, p3⟩) hx9 h0 (hts _ hlk) hcast' (by rw [e1]; exact hce) hcv hcl (kk q z T'.heap (locs ++ L) g4 ⟨by rw [e1]; exact g3, k3, hH.2.2⟩) T' rfl X'
      exact ⟨t2, st.trans a1, b1⟩
def bk_QR (G : bk_G) (R : Int32 → bk_Lay → bk_Val → Prop) : Array Value → State → Outcome → State → Prop := fun a st oc t => ∃ k Y V, R k Y V ∧ bk_Q G (some (.int k)) Y V a st oc t
theorem bk_qr {R9 : Int32 → bk_Lay → bk_Val → Prop} {k : Int32} {XC : String → State → State → Prop} {g : JFrame} (h : R9 k Y V) (kk : W p l e R s m args below meth c H locs cells slots (MQ below (bk_Q G (some (.int k)) Y V) args s mc ms (bk_A G)) g) :
    W p l e R s m args below meth c H locs cells slots (vx_MQ below (bk_QR G R9) XC args s mc ms (bk_A G)) g := by
  intro T hT X
  obtain ⟨t, a1, o, b1, b2, b3, b4⟩ := kk T hT X
  exact ⟨t, a1, o, b1, b2, Or.inl ⟨⟨k, Y, V, h, b3⟩, b4⟩⟩
def bk_wh (y : MethodName) (cc : ByteArray) (nL : Nat) (ret : Option FieldType) (hh : List (Nat × Nat × Nat × Nat)) : List Cond := Cond.codeWith y cc nL ret hh :: bk_GW
def bk_nx : String → State → State → Prop := fun _ _ _ => False
theorem bk_meth {hh : List (Nat × Nat × Nat × Nat)} {av : List Value} {Qc : Array Value → State → Outcome → State → Prop} (hy : plainName y.cls = true) (hlen : (lg_sl av).length ≤ nL)
    (body : ∀ (p : Program) (e : Env) (s : State) (m : MethodId) (args : Array Value) (below : List Frame) (meth : Method) (c : Code) (ls : Array Slot), bk_C G p s m args meth c cc y.cls nL ret → c.exceptionTable.toList = tableOf hh → bk_H G Y V s.heap s.heap [] → lv_has ls nL (lv_args 0 av) → W p l e rm s m args below meth c s.heap [] 0 0 (vx_MQ below Qc bk_nx args s mc ms (bk_A G)) (F0 m 0 ls [])) :
    vx_Met l y (bk_wh y cc nL ret hh) rm (bk_Pc G av Y V) Qc bk_nx mc ms (bk_A G) := by
  refine vx_ofWH (cc := cc) (maxL := nL) (ret := ret) (hh := hh) hy rfl ?_
  intro p e s m args below meth c s₁ B hml hv
  obtain ⟨rfl, hP, hE, hz⟩ := hv
  have hts := atoms_spec (ws := bk_wh y cc nL ret hh) B.pre
  have hl := lv_entry av (n := nL) hlen
  have ht := vx_table (x := y) B (hts _ List.mem_cons_self)
  rw [lg_entry_eq]
  exact body p e s m _ below meth c _ ⟨B.exec, B.bytes, hml, findClass_of_methodNamed B.named, fun w hw => hts w (List.mem_cons_of_mem _ hw), B.returns, B.notSynchronized, hE⟩ ht ⟨hP, va_S.rf, hz⟩ hl
theorem bk_in01 : vp_in 0 1 := by unfold vp_in; decide
/-! what a helper answers -/
def bk_hr (Y : bk_Lay) (V : bk_Val) (a : Nat) (cd : Nat → Int32) (o : Nat ⊕ (Int64 × bk_Lay × bk_Val)) : Int32 → bk_Lay → bk_Val → Prop := fun k Y' V' => match o with
  | .inl e => k = cd e ∧ V' = V ∧ ∃ z, bk_sz Y ≤ z ∧ Y' = (Y.1, Y.2.1, z)
  | .inr r => k = 0 ∧ Y' = r.2.1 ∧ V' = bk_wL r.2.2 a 0 r.1
def bk_on {α : Type} (g : α → Int64 × bk_Lay × bk_Val) (o : Nat ⊕ α) : Nat ⊕ (Int64 × bk_Lay × bk_Val) := match o with
  | .inl e => .inl e
  | .inr r => .inr (g r)
def bk_mh (y : MethodName) (cc : ByteArray) (nL : Nat) (ret : Option FieldType) (hh : List (Nat × Nat × Nat × Nat)) (n : Nat) : Prop := Cond.codeWith y cc nL ret hh ∈ bk_GW ∧ Cond.initialized y.cls ∈ bk_GW ∧ y.cls ≠ "java/lang/invoke/MethodHandle" ∧ y.cls ≠ "java/lang/invoke/VarHandle" ∧ (parseMethodDescriptor y.desc).map (fun d => d.parameters.length) = some n
theorem bk_callSh {R9 : Int32 → bk_Lay → bk_Val → Prop} {hh : List (Nat × Nat × Nat × Nat)} (C : bk_C G p s m args meth c cc own nL ret) (hH : bk_H G Y V s.heap H locs) (hls : ls.size = nL) (hM : vx_Met l y (bk_wh y bytes maxL rty hh) rm (bk_Pc G As Y V) (bk_QR G R9) bk_nx mc ms (bk_A G)) (hm : bk_mh y bytes maxL rty hh n) (hv : Cond.static y ∈ bk_GW) (hl : Cond.methodLink own index y ∈ bk_GW)
    (hn : As.length = n) (hrc : rm.cells = mc ∧ rm.slots = ms) (hR : rm.frames + 1 ≤ R.frames ∧ 8 + (maxL + 11) + rm.locals ≤ R.locals) (hst : st0 = As.reverse ++ rest) (hW : (rest.map fun v => v.category).sum ≤ 8) (hdg : decode cc pc = .ok (.invokestatic index, 3)) (hf : cells + mc ≤ R.cells ∧ slots + ms ≤ R.slots)
    (kk : ∀ (k : Int32) (Y1 : bk_Lay) (V1 : bk_Val) (H1 : Heap) (locs1 : List Loc), R9 k Y1 V1 → bk_H G Y1 V1 s.heap H1 locs1 → W p l e R s m args below meth c H1 locs1 (cells + mc) (slots + ms) Q (F0 m (pc + 3) ls (.int k :: rest))) : W p l e R s m args below meth c H locs cells slots Q (F0 m pc ls st0) := by
  obtain ⟨hx, hb, hml, hown, hts, -, hlocks, hE⟩ := id C
  obtain ⟨m1, m2, m3, m4, m5⟩ := hm
  have hp : PreS s H (bk_Pc G As Y V) As := ⟨bk_Pc_blind, fun U hU hW => bk_pre C hH hU hW⟩
  have S : CallFix p m c cc nL s args bk_GW own := ⟨hx, hb, hml, hown, hts⟩
  have hG : GoodIn bk_GW (va_wsS own index y (bk_wh y bytes maxL rty hh)) := by
    intro w hw
    have hin : w ∈ bk_GW := by
      simp only [va_wsS, bk_wh, List.mem_append, List.mem_cons, List.not_mem_nil, or_false] at hw
      rcases hw with (rfl | rfl | rfl) | (rfl | h) <;> assumption
    exact ⟨hin, good_of_word (List.mem_filter.mp hin).2⟩
  have hr := bk_xrun (vx_runSX (g := F0 m pc ls st0) (e := e) (below := below) (meth := meth) (locs := locs) (cells := cells) (slots := slots) S hM (vx_cwSW (R := R) n hts hG rfl hrc.1 hrc.2 ⟨m3, m4, m5⟩ hR) hp rfl hn hls hst (lv_room hW) hdg hf) (fun E st t h => h)
  intro T hT X
  obtain ⟨v, st₀, t, T', L, h0, X', hL, e1, e2, ⟨k, Y1, V1, hR9, hv, hP, hE', hz, hk⟩, st⟩ := hr T hT X
  cases hv
  rw [h0] at hz hk
  have hS := hH.2.1
  obtain ⟨t2, a1, b1⟩ := kk k Y1 V1 T'.heap (locs ++ L) hR9 ⟨by rw [e1]; exact hP, ⟨Nat.le_trans hS.1 (by rw [e1]; exact hz), fun q h1 h2 => by rw [e1, hk q (Nat.lt_of_lt_of_le h1 hS.1) h2]; exact hS.2.1 q h1 h2, fun q hq => by
      rcases List.mem_append.mp hq with h | h
      · exact hS.2.2 q h
      · exact hL q h⟩, hH.2.2⟩ T' rfl X'
  exact ⟨t2, st t2 a1, b1⟩
end
