/-! exceptions that leave a method -/
def bk_exc (e : Nat) : String := if e = 1 then "java/util/NoSuchElementException" else "java/lang/IllegalArgumentException"
def bk_XC {α : Type} (G : bk_G) (Y : bk_Lay) (V : bk_Val) (out : Nat ⊕ α) : String → State → State → Prop := fun E st t => ∃ e, out = .inl e ∧ E = bk_exc e ∧ (∃ z, bk_P G (Y.1, Y.2.1, z) V t.heap ∧ bk_sz Y ≤ z) ∧ va_F (bk_A G) st t
def bk_QX {α : Type} (f : α → Array Value → State → Outcome → State → Prop) (out : Nat ⊕ α) : Array Value → State → Outcome → State → Prop := match out with
  | .inl _ => fun _ _ _ _ => False
  | .inr o => f o
def bk_bdx {α β : Type} (x : Option (Nat ⊕ α)) (f : α → Option (Nat ⊕ β)) : Option (Nat ⊕ β) := match x with
  | some (.inr a) => f a
  | some (.inl e) => some (.inl e)
  | none => none
theorem bk_bdx_cases {α β : Type} {x : Option (Nat ⊕ α)} {f : α → Option (Nat ⊕ β)} {o : Nat ⊕ β} (h : bk_bdx x f = some o) : (∃ e, x = some (.inl e) ∧ o = .inl e) ∨ ∃ a, x = some (.inr a) ∧ f a = some o := by
  cases x with
  | none => cases h
  | some y => cases y with
    | inl e => exact Or.inl ⟨e, rfl, (Option.some.inj h).symm⟩
    | inr a => exact Or.inr ⟨a, rfl, h⟩
section
variable {p : Program} {l : Launch} {e : Env} {R : Room} {s : State} {m : MethodId} {args : Array Value} {below : List Frame} {meth : Method} {c : Code} {H : Heap} {locs : List Loc} {cells slots : Nat} {Q : State → Prop}
variable {cc : ByteArray} {pc : Nat} {ls : Array Slot} {rest : List Value} {G : bk_G} {Y Y1 : bk_Lay} {V V1 : bk_Val} {own : String} {nL : Nat} {ret : Option FieldType}
variable {y : MethodName} {bytes : ByteArray} {maxL n mc ms index : Nat} {rty : Option FieldType} {rm : Room} {As : List Value} {ro : Option Value} {st0 : List Value}
theorem bk_P.thrown {t : State} (hP : bk_P G Y V H) (hz : H.size ≤ t.heap.size) (hq : ∀ q : Nat, q < H.size → t.heap[q]? = H[q]?) : ∃ z, bk_P G (Y.1, Y.2.1, z) V t.heap ∧ bk_sz Y ≤ z := by
  refine ⟨t.heap.size, ⟨rfl, fun a => ?_, fun a h => ?_⟩, by rw [show bk_sz Y = H.size from hP.1.symm]; exact hz⟩
  · by_cases h0 : (Y.1 a).1 = 0
    · unfold bk_cell
      rw [if_pos h0]
      trivial
    · exact (hP.2.1 a).kept rfl rfl rfl rfl (hq a (by rw [hP.1]; exact (hP.2.2 a h0).2))
  · exact ⟨(hP.2.2 a h).1, Nat.lt_of_lt_of_le (by rw [hP.1]; exact (hP.2.2 a h).2) hz⟩
theorem bk_xrun {Qa : State → Outcome → State → Prop} {XC : String → State → State → Prop} {free : Addr → Prop} {g : JFrame} (hr : vx_Run p l e R s m args below meth c H locs cells slots mc ms g rest Qa XC free) (hX : ∀ E st t, ¬ XC E st t) : va_Run p l e R s m args below meth c H locs cells slots mc ms g rest Qa free := by
  intro T hT X
  rcases hr T hT X with h | ⟨q, st₀, t, T', L, E, ce, h0, X', hL, e1, e2, hx, -⟩
  · exact h
  · exact absurd hx (hX _ _ _)
theorem bk_xthr {α β : Type} {o1 : Nat ⊕ α} {out : Nat ⊕ β} {Qa : State → Outcome → State → Prop} {Qc : Array Value → State → Outcome → State → Prop} {MC MS : Nat} (hr : vx_Run p l e R s m args below meth c H locs cells slots mc ms (F0 m pc ls st0) rest Qa (bk_XC G Y V o1) (bk_A G)) (hQ : ∀ st o t, ¬ Qa st o t) (hT9 : ∀ x ∈ c.exceptionTable.toList, False) (hlocks : meth.locks = false) (hH : bk_H G Y V s.heap H locs) {e9 : Nat} (he : o1 = .inl e9) (ho : out = .inl e9) (hc : cells + mc ≤ MC) (hs : slots + ms ≤ MS) :
    W p l e R s m args below meth c H locs cells slots (vx_MQ below Qc (bk_XC G Y V out) args s MC MS (bk_A G)) (F0 m pc ls st0) := by
  intro T hT X
  rcases hr T hT X with ⟨v, st₀, t, T', L, h0, X', hL, e1, e2, hq, -⟩ | ⟨q, st₀, t, T', L, E, ce, h0, X', hL, e1, e2, hx, hce, hcv, hcl, st⟩
  · exact absurd hq (hQ _ _ _)
  · obtain ⟨e8, g1, g2, ⟨z, g3, g4⟩, g5⟩ := hx
    obtain ⟨k1, k2, k3⟩ := vx_keep h0 e1 hH.2.1 (fun q _ h => h) (fun q h => h) hL g5
    obtain ⟨t2, a1, b1⟩ := vx_out (p := p) (l := l) (e := e) (R := R) (args := args) (below := below) (ls := ls) (rest := rest) (pc := pc) (Qc := Qc) (XC := bk_XC G Y V out) (free := bk_A G) (fun x hx => absurd hx (fun h => hT9 x h)) hlocks (H := T'.heap) (by rw [e1]; exact hce) hcv hcl (fun t9 ht9 _ => ⟨e8, by rw [ho]; rw [he] at g1; cases g1; rfl, g2, ⟨z, by rw [ht9, e1]; exact g3, g4⟩, k3.F ht9⟩) k3.2.2 hc hs T' rfl X'
    exact ⟨t2, st.trans a1, b1⟩
theorem bk_callVt {α β : Type} {f : α → Array Value → State → Outcome → State → Prop} {out : Nat ⊕ β} {e9 : Nat} {Qc : Array Value → State → Outcome → State → Prop} {MC MS : Nat} (C : bk_C G p s m args meth c cc own nL ret) (hT9 : ∀ x ∈ c.exceptionTable.toList, False) (hH : bk_H G Y V s.heap H locs) (hls : ls.size = nL) {b ci : Nat} (hM : vx_Met l y (bk_ws y bytes maxL rty) rm (bk_Pc G (.ref b :: As) Y V) (bk_QX f (.inl e9)) (bk_XC G Y V (.inl e9 : Nat ⊕ α)) mc ms (bk_A G)) (ho : out = .inl e9) (hm : bk_mc y bytes maxL rty n) (hv : bk_mv y) (hl : Cond.methodLink own index y ∈ bk_GW) (hs : bk_sh Y b = (1, ci)) (hc : (vwCl[ci]?).map (fun q => q.1) = some y.cls)
    (hn : As.length = n) (hrc : rm.cells = mc ∧ rm.slots = ms) (hR : rm.frames + 1 ≤ R.frames ∧ 8 + (maxL + 11) + rm.locals ≤ R.locals) (hst : st0 = As.reverse ++ .ref b :: rest) (hW : (rest.map fun v => v.category).sum ≤ 8) (hdg : decode cc pc = .ok (.invokevirtual index, 3)) (hf : cells + mc ≤ R.cells ∧ slots + ms ≤ R.slots) (hc1 : cells + mc ≤ MC) (hs1 : slots + ms ≤ MS) :
    W p l e R s m args below meth c H locs cells slots (vx_MQ below Qc (bk_XC G Y V out) args s MC MS (bk_A G)) (F0 m pc ls st0) := by
  obtain ⟨hx, hb, hml, hown, hts, -, hlocks, hE⟩ := id C
  obtain ⟨m1, m2, m3, m4, m5⟩ := hm
  cases hci : vwCl[ci]? with
  | none => rw [hci] at hc; cases hc
  | some q =>
    obtain ⟨C0, T0, N0⟩ := q
    rw [hci] at hc
    have e0 : C0 = y.cls := Option.some.inj hc
    subst e0
    have hp : PreV s H y.cls b (bk_Pc G (.ref b :: As) Y V) As := ⟨bk_Pc_blind, bk_recv C hH hs hci, fun U hU hW => bk_pre C hH hU hW⟩
    have S : CallFix p m c cc nL s args bk_GW own := ⟨hx, hb, hml, hown, hts⟩
    exact bk_xthr (vx_runV (g := F0 m pc ls st0) S hM ⟨callB_of n hts (bk_good (y := y) (cc := cc) (nL := 0) (ret := none) m1) rfl hrc.1 hrc.2 (hts _ m2) (hts _ hl) ⟨m3, m4, m5⟩ hR, hts _ hv.1, hts _ hv.2⟩ hp rfl hn hls hst (lv_room hW) hdg hf) (fun _ _ _ h => h) hT9 hlocks hH rfl ho hc1 hs1
theorem bk_callVr {α : Type} {f : α → Array Value → State → Outcome → State → Prop} {o1 : α} (hfo : f o1 = bk_Q G ro Y1 V1) (C : bk_C G p s m args meth c cc own nL ret) (hH : bk_H G Y V s.heap H locs) (hls : ls.size = nL) {b ci : Nat} (hM : vx_Met l y (bk_ws y bytes maxL rty) rm (bk_Pc G (.ref b :: As) Y V) (bk_QX f (.inr o1)) (bk_XC G Y V (.inr o1)) mc ms (bk_A G)) (hm : bk_mc y bytes maxL rty n) (hv : bk_mv y) (hl : Cond.methodLink own index y ∈ bk_GW) (hs : bk_sh Y b = (1, ci)) (hc : (vwCl[ci]?).map (fun q => q.1) = some y.cls)
    (hn : As.length = n) (hrc : rm.cells = mc ∧ rm.slots = ms) (hR : rm.frames + 1 ≤ R.frames ∧ 8 + (maxL + 11) + rm.locals ≤ R.locals) (hst : st0 = As.reverse ++ .ref b :: rest) (hW : (rest.map fun v => v.category).sum ≤ 8) (hdg : decode cc pc = .ok (.invokevirtual index, 3)) (hf : cells + mc ≤ R.cells ∧ slots + ms ≤ R.slots)
    (kk : ∀ (H1 : Heap) (locs1 : List Loc), bk_H G Y1 V1 s.heap H1 locs1 → W p l e R s m args below meth c H1 locs1 (cells + mc) (slots + ms) Q (F0 m (pc + 3) ls (ro.toList ++ rest))) : W p l e R s m args below meth c H locs cells slots Q (F0 m pc ls st0) := by
  obtain ⟨hx, hb, hml, hown, hts, -, hlocks, hE⟩ := id C
  obtain ⟨m1, m2, m3, m4, m5⟩ := hm
  cases hci : vwCl[ci]? with
  | none => rw [hci] at hc; cases hc
  | some q =>
    obtain ⟨C0, T0, N0⟩ := q
    rw [hci] at hc
    have e0 : C0 = y.cls := Option.some.inj hc
    subst e0
    have hp : PreV s H y.cls b (bk_Pc G (.ref b :: As) Y V) As := ⟨bk_Pc_blind, bk_recv C hH hs hci, fun U hU hW => bk_pre C hH hU hW⟩
    have S : CallFix p m c cc nL s args bk_GW own := ⟨hx, hb, hml, hown, hts⟩
    have hr := bk_xrun (vx_runV (g := F0 m pc ls st0) (e := e) (below := below) (meth := meth) (locs := locs) (cells := cells) (slots := slots) S hM ⟨callB_of n hts (bk_good (y := y) (cc := cc) (nL := 0) (ret := none) m1) rfl hrc.1 hrc.2 (hts _ m2) (hts _ hl) ⟨m3, m4, m5⟩ hR, hts _ hv.1, hts _ hv.2⟩ hp rfl hn hls hst (lv_room hW) hdg hf) (fun E st t h => by obtain ⟨e8, g1, -⟩ := h; cases g1)
    exact bk_after (a := (Value.ref b :: As).toArray) (rest := rest) (mc := mc) (ms := ms) (by rw [← hfo]; exact hr) hH kk
theorem bk_callSt {α β : Type} {f : α → Array Value → State → Outcome → State → Prop} {out : Nat ⊕ β} {e9 : Nat} {Qc : Array Value → State → Outcome → State → Prop} {MC MS : Nat} (C : bk_C G p s m args meth c cc own nL ret) (hT9 : ∀ x ∈ c.exceptionTable.toList, False) (hH : bk_H G Y V s.heap H locs) (hls : ls.size = nL) (hM : vx_Met l y (bk_ws y bytes maxL rty) rm (bk_Pc G As Y V) (bk_QX f (.inl e9)) (bk_XC G Y V (.inl e9 : Nat ⊕ α)) mc ms (bk_A G)) (ho : out = .inl e9) (hm : bk_mc y bytes maxL rty n) (hv : Cond.static y ∈ bk_GW) (hl : Cond.methodLink own index y ∈ bk_GW)
    (hn : As.length = n) (hrc : rm.cells = mc ∧ rm.slots = ms) (hR : rm.frames + 1 ≤ R.frames ∧ 8 + (maxL + 11) + rm.locals ≤ R.locals) (hst : st0 = As.reverse ++ rest) (hW : (rest.map fun v => v.category).sum ≤ 8) (hdg : decode cc pc = .ok (.invokestatic index, 3)) (hf : cells + mc ≤ R.cells ∧ slots + ms ≤ R.slots) (hc1 : cells + mc ≤ MC) (hs1 : slots + ms ≤ MS) :
    W p l e R s m args below meth c H locs cells slots (vx_MQ below Qc (bk_XC G Y V out) args s MC MS (bk_A G)) (F0 m pc ls st0) := by
  obtain ⟨hx, hb, hml, hown, hts, -, hlocks, hE⟩ := id C
  obtain ⟨m1, m2, m3, m4, m5⟩ := hm
  have hp : PreS s H (bk_Pc G As Y V) As := ⟨bk_Pc_blind, fun U hU hW => bk_pre C hH hU hW⟩
  have S : CallFix p m c cc nL s args bk_GW own := ⟨hx, hb, hml, hown, hts⟩
  exact bk_xthr (vx_runS (g := F0 m pc ls st0) S hM ⟨callB_of n hts (bk_good (y := y) (cc := cc) (nL := 0) (ret := none) m1) rfl hrc.1 hrc.2 (hts _ m2) (hts _ hl) ⟨m3, m4, m5⟩ hR, hts _ hv⟩ hp rfl hn hls hst (lv_room hW) hdg hf) (fun _ _ _ h => h) hT9 hlocks hH rfl ho hc1 hs1
theorem bk_callSr {α : Type} {f : α → Array Value → State → Outcome → State → Prop} {o1 : α} (hfo : f o1 = bk_Q G ro Y1 V1) (C : bk_C G p s m args meth c cc own nL ret) (hH : bk_H G Y V s.heap H locs) (hls : ls.size = nL) (hM : vx_Met l y (bk_ws y bytes maxL rty) rm (bk_Pc G As Y V) (bk_QX f (.inr o1)) (bk_XC G Y V (.inr o1)) mc ms (bk_A G)) (hm : bk_mc y bytes maxL rty n) (hv : Cond.static y ∈ bk_GW) (hl : Cond.methodLink own index y ∈ bk_GW)
    (hn : As.length = n) (hrc : rm.cells = mc ∧ rm.slots = ms) (hR : rm.frames + 1 ≤ R.frames ∧ 8 + (maxL + 11) + rm.locals ≤ R.locals) (hst : st0 = As.reverse ++ rest) (hW : (rest.map fun v => v.category).sum ≤ 8) (hdg : decode cc pc = .ok (.invokestatic index, 3)) (hf : cells + mc ≤ R.cells ∧ slots + ms ≤ R.slots)
    (kk : ∀ (H1 : Heap) (locs1 : List Loc), bk_H G Y1 V1 s.heap H1 locs1 → W p l e R s m args below meth c H1 locs1 (cells + mc) (slots + ms) Q (F0 m (pc + 3) ls (ro.toList ++ rest))) : W p l e R s m args below meth c H locs cells slots Q (F0 m pc ls st0) := by
  obtain ⟨hx, hb, hml, hown, hts, -, hlocks, hE⟩ := id C
  obtain ⟨m1, m2, m3, m4, m5⟩ := hm
  have hp : PreS s H (bk_Pc G As Y V) As := ⟨bk_Pc_blind, fun U hU hW => bk_pre C hH hU hW⟩
  have S : CallFix p m c cc nL s args bk_GW own := ⟨hx, hb, hml, hown, hts⟩
  have hr := bk_xrun (vx_runS (g := F0 m pc ls st0) (e := e) (below := below) (meth := meth) (locs := locs) (cells := cells) (slots := slots) S hM ⟨callB_of n hts (bk_good (y := y) (cc := cc) (nL := 0) (ret := none) m1) rfl hrc.1 hrc.2 (hts _ m2) (hts _ hl) ⟨m3, m4, m5⟩ hR, hts _ hv⟩ hp rfl hn hls hst (lv_room hW) hdg hf) (fun E st t h => by obtain ⟨e8, g1, -⟩ := h; cases g1)
  exact bk_after (a := As.toArray) (rest := rest) (mc := mc) (ms := ms) (by rw [← hfo]; exact hr) hH kk
/-! a throw of a method's own -/
def bk_tw (own : String) (ic : Nat) (e9 : Nat) : List Cond := vx_atS own ic (bk_exc e9) ["java/lang/RuntimeException", "java/lang/Exception"]
theorem bk_throw {α : Type} {Qc : Array Value → State → Outcome → State → Prop} {MC MS : Nat} {out : Nat ⊕ α} (C : bk_C G p s m args meth c cc own nL ret) (hst : l.stackTraces = false) (hT9 : ∀ x ∈ c.exceptionTable.toList, False) (hH : bk_H G Y V s.heap H locs) (hls : ls.size = nL) {ik is ic i e9 : Nat} {tx : String} (ho : out = .inl e9) (hi : bk_strs[i]? = some (own, is, tx)) (w1 : Cond.classLink own ik (bk_exc e9) ∈ bk_GW) (w2 : Cond.initialized (bk_exc e9) ∈ bk_GW) (hcls : Bundle.fit (bk_exc e9) = true)
    (h1 : ∀ w ∈ (bk_tw own ic e9).filter goodWord, w ∈ lw_tbl) (h2 : ∀ w ∈ (bk_tw own ic e9).filter (fun w => !goodWord w), w ∈ bk_nest) (hg : ∀ w ∈ Cond.classLink own ik (bk_exc e9) :: Cond.initialized (bk_exc e9) :: bk_tw own ic e9, vx_ot w = true)
    (d0 : decode cc pc = .ok (.new ik, 3)) (d3 : decode cc (pc + 3) = .ok (.dup, 1)) (d4 : decode cc (pc + 4) = .ok (.ldc is, 2)) (d6 : decode cc (pc + 6) = .ok (.invokespecial ic, 3)) (d9 : decode cc (pc + 9) = .ok (.athrow, 1))
    (hRf : 5 < R.frames) (hRl : (rest.map fun v => v.category).sum + (13 * 3 + 43) ≤ R.locals) (hRc : cells + 1 ≤ R.cells) (hRs : slots + 6 ≤ R.slots) (hc : cells + 1 ≤ MC) (hs : slots + 6 ≤ MS) :
    W p l e R s m args below meth c H locs cells slots (vx_MQ below Qc (bk_XC G Y V out) args s MC MS (bk_A G)) (F0 m pc ls rest) := by
  obtain ⟨hx, hb, hml, hown, hts, -, hlocks, hE⟩ := id C
  obtain ⟨-, hnest, hstr, ⟨-, -, -, -, -, -, zU, zN⟩, -⟩ := id hE
  refine vx_throwS (names := ["java/lang/RuntimeException", "java/lang/Exception"]) hx hb hst hown hcls (by decide) (hts _ w1) (hts _ w2) (hstr i _ hi).1 (vx_hat (B := bk_nest) (fun w hw => hts w (List.mem_filter.mpr ⟨h1 w hw, (List.mem_filter.mp hw).2⟩)) h2 (fun w hw => ?_)) hg zU zN hH.2.1 (by rw [hml]; exact hls) d0 d3 d4 d6 d9 (fun x hx => absurd hx (fun h => hT9 x h)) hRf hRl hRc hRs hlocks (fun t _ hz hq => ⟨e9, ho, rfl, hH.1.thrown hz hq, ⟨Nat.le_trans hH.2.1.1 hz, fun q g1 g2 => by rw [hq q (Nat.lt_of_lt_of_le g1 hH.2.1.1)]; exact hH.2.1.2.1 q g1 g2⟩⟩) hH.2.1.2.2 hc hs
  have h := hnest w hw
  simp only [bk_nest, List.mem_cons, List.not_mem_nil, or_false] at hw
  rcases hw with rfl | rfl | rfl | rfl | rfl | rfl | rfl | rfl | rfl | rfl | rfl | rfl | rfl | rfl | rfl | rfl | rfl | rfl | rfl <;> exact h.use rfl
theorem bk_throwW {α : Type} {Qc : Array Value → State → Outcome → State → Prop} {MC MS : Nat} {out : Nat ⊕ α} (C : bk_C G p s m args meth c cc own nL ret) (hst : l.stackTraces = false) (hT9 : ∀ x ∈ c.exceptionTable.toList, False) (hH : bk_H G Y V s.heap H locs) (hls : ls.size = nL) {ik is ic i e9 : Nat} {tx : String} (ho : out = .inl e9) (hi : bk_strs[i]? = some (own, is, tx)) (w1 : Cond.classLink own ik (bk_exc e9) ∈ bk_GW) (w2 : Cond.initialized (bk_exc e9) ∈ bk_GW) (hcls : Bundle.fit (bk_exc e9) = true)
    (h1 : ∀ w ∈ (bk_tw own ic e9).filter goodWord, w ∈ lw_tbl) (h2 : ∀ w ∈ (bk_tw own ic e9).filter (fun w => !goodWord w), w ∈ bk_nest) (hg : ∀ w ∈ Cond.classLink own ik (bk_exc e9) :: Cond.initialized (bk_exc e9) :: bk_tw own ic e9, vx_ot w = true)
    (d0 : decode cc pc = .ok (.new ik, 3)) (d3 : decode cc (pc + 3) = .ok (.dup, 1)) (d4 : decode cc (pc + 4) = .ok (.ldc_w is, 3)) (d6 : decode cc (pc + 7) = .ok (.invokespecial ic, 3)) (d9 : decode cc (pc + 10) = .ok (.athrow, 1))
    (hRf : 5 < R.frames) (hRl : (rest.map fun v => v.category).sum + (13 * 3 + 43) ≤ R.locals) (hRc : cells + 1 ≤ R.cells) (hRs : slots + 6 ≤ R.slots) (hc : cells + 1 ≤ MC) (hs : slots + 6 ≤ MS) :
    W p l e R s m args below meth c H locs cells slots (vx_MQ below Qc (bk_XC G Y V out) args s MC MS (bk_A G)) (F0 m pc ls rest) := by
  obtain ⟨hx, hb, hml, hown, hts, -, hlocks, hE⟩ := id C
  obtain ⟨-, hnest, hstr, ⟨-, -, -, -, -, -, zU, zN⟩, -⟩ := id hE
  refine vx_throwSW (names := ["java/lang/RuntimeException", "java/lang/Exception"]) hx hb hst hown hcls (by decide) (hts _ w1) (hts _ w2) (hstr i _ hi).1 (vx_hat (B := bk_nest) (fun w hw => hts w (List.mem_filter.mpr ⟨h1 w hw, (List.mem_filter.mp hw).2⟩)) h2 (fun w hw => ?_)) hg zU zN hH.2.1 (by rw [hml]; exact hls) d0 d3 d4 d6 d9 (fun x hx => absurd hx (fun h => hT9 x h)) hRf hRl hRc hRs hlocks (fun t _ hz hq => ⟨e9, ho, rfl, hH.1.thrown hz hq, ⟨Nat.le_trans hH.2.1.1 hz, fun q g1 g2 => by rw [hq q (Nat.lt_of_lt_of_le g1 hH.2.1.1)]; exact hH.2.1.2.1 q g1 g2⟩⟩) hH.2.1.2.2 hc hs
  have h := hnest w hw
  simp only [bk_nest, List.mem_cons, List.not_mem_nil, or_false] at hw
  rcases hw with rfl | rfl | rfl | rfl | rfl | rfl | rfl | rfl | rfl | rfl | rfl | rfl | rfl | rfl | rfl | rfl | rfl | rfl | rfl <;> exact h.use rfl
end
theorem bk_metx {l : Launch} {G : bk_G} {y : MethodName} {cc : ByteArray} {nL : Nat} {ret : Option FieldType} {rm : Room} {av : List Value} {Y : bk_Lay} {V : bk_Val} {Qc : Array Value → State → Outcome → State → Prop} {XC : String → State → State → Prop} {mc ms : Nat} (hy : plainName y.cls = true) (hlen : (lg_sl av).length ≤ nL)
    (body : ∀ (p : Program) (e : Env) (s : State) (m : MethodId) (args : Array Value) (below : List Frame) (meth : Method) (c : Code) (ls : Array Slot), bk_C G p s m args meth c cc y.cls nL ret → (∀ x ∈ c.exceptionTable.toList, False) → bk_H G Y V s.heap s.heap [] → lv_has ls nL (lv_args 0 av) → W p l e rm s m args below meth c s.heap [] 0 0 (vx_MQ below Qc XC args s mc ms (bk_A G)) (F0 m 0 ls [])) :
    vx_Met l y (bk_ws y cc nL ret) rm (bk_Pc G av Y V) Qc XC mc ms (bk_A G) := by
  refine vx_ofW (cc := cc) (maxL := nL) (ret := ret) hy rfl ?_
  intro p e s m args below meth c s₁ B hml hT9 hv
  obtain ⟨rfl, hP, hE, hz⟩ := hv
  have hts := atoms_spec (ws := bk_ws y cc nL ret) B.pre
  have hl := lv_entry av (n := nL) hlen
  rw [lg_entry_eq]
  exact body p e s m _ below meth c _ ⟨B.exec, B.bytes, hml, findClass_of_methodNamed B.named, fun w hw => hts w (List.mem_cons_of_mem _ hw), B.returns, B.notSynchronized, hE⟩ hT9 ⟨hP, va_S.rf, hz⟩ hl
