/-! an exception whose own constructor has another index than the kit's law takes: the same words but two, over the library's laws of the chain (ThrowableC.of_atoms, PassC.ofS_atoms, Bundle.chainS, ctorMessageOffV, athrowLeaves) -/
def bk_R : String := "java/lang/RuntimeException"
def bk_up : List String := ["java/lang/RuntimeException", "java/lang/Exception"]
def bk_wA (own : String) (ic : Nat) (cls : String) (args : Array Value) (s : State) : Prop := ∀ a ∈ Bundle.ownAtoms own ic cls bk_up, a ≠ .code (Bundle.initS cls) Bundle.six 2 none → a ≠ .methodLink cls 7 (Bundle.initS bk_R) → a.before args s = true
section
variable {p : Program} {l : Launch} {e : Env} {R : Room} {s : State} {m : MethodId} {args : Array Value} {below : List Frame} {meth : Method} {c : Code} {W : State} {locs : List Loc} {cells slots : Nat}
set_option maxHeartbeats 2000000 in
theorem bk_ctorS (X : Stand p l e R s m args below meth c W locs cells slots) (hexec : p.tables.exec = Jvm.exec) (htr : e.platform.stackTraces = false) {own cls : String} {ic ix : Nat} {rx : ByteArray}
    (x0 : decode rx 0 = .ok (.aload_n 0, 1)) (x1 : decode rx 1 = .ok (.aload_n 1, 1)) (x2 : decode rx 2 = .ok (.invokespecial ix, 3)) (x5 : decode rx 5 = .ok (.return_, 1))
    (hown : s.vm.findClass own = some m.cls) (hcls : Bundle.fit cls = true) (hne : cls ≠ bk_R ∧ cls ≠ "java/lang/Exception" ∧ cls ≠ Bundle.tN ∧ own ≠ cls) (hA : bk_wA own ic cls args s) (hc9 : (Cond.code (Bundle.initS cls) rx 2 none).before args s = true) (hm9 : (Cond.methodLink cls ix (Bundle.initS bk_R)).before args s = true)
    (hlocs : ∀ x ∈ locs, ∀ cell, s.heap[x.base]? = some cell → cell.vm.isStatics = false)
    {a : Addr} {cX : ClassId} {kX : Class} (hfoundX : s.vm.findClass cls = some cX) (hkX : s.vm.classes[cX]? = some kX) (hcell : W.heap[a]? = some (freshCell cX kX)) (hnew : s.heap.size ≤ a) {msg : Value} (hmsg : msg.isRef = true)
    {g : JFrame} (hg : g.method = m) (hsize : g.locals.size = c.maxLocals) (hlocked : g.locked = none) (hentered : g.entered = []) {rest : List Value} (hstack : g.stack = msg :: .ref a :: .ref a :: rest)
    (hd6 : decode c.code g.pc = .ok (.invokespecial ic, 3)) (hd9 : decode c.code (g.pc + 3) = .ok (.athrow, 1)) (hout : ∀ x ∈ c.exceptionTable.toList, covers x (g.pc + 3) = false)
    (hRframes : 5 < R.frames) (hRlocals : 2 * g.monitorRoom + ((Value.ref a :: rest).map fun v => v.category).sum + 81 ≤ R.locals) (hlocks : meth.locks = false) :
    ∃ U : State, Steps p.tables e below (W.setTop g) U ∧ U.status = .running ∧ Ended U below (.threw a) ∧ s.WarmedH U.vm ∧ s.sameButNew ({ U with vm := s.vm } : State) locs cells slots ∧ ∃ ce, U.heap[a]? = some ce ∧ ce.vm = .none ∧ s.vm.findClass cls = some ce.cls := by
  have howns : e.platform.frameOwnsMonitors = true := by rw [X.admits.platform]
  have hfin : e.platform.finalization = false := by rw [X.admits.platform]
  have hpl : e.platform.magicAccessors = ({} : Platform).magicAccessors := by rw [X.admits.platform]
  have hin : Bundle.initS cls ≠ Bundle.initS bk_R := fun h => hne.1 (by simpa [Bundle.initS] using h)
  have hin2 : Bundle.initS cls ≠ Bundle.initS "java/lang/Exception" := fun h => hne.2.1 (by simpa [Bundle.initS] using h)
  have hin3 : Bundle.initS cls ≠ Bundle.initS Bundle.tN := fun h => hne.2.2.1 (by simpa [Bundle.initS] using h)
  have tailW : ∀ w ∈ ([.methodLink own ic (Bundle.initS cls), .instantiable cls 6, .castable cls cls, .selects cls Bundle.tFill0 Bundle.tFill0, .selects cls Bundle.tFill Bundle.tFill, .lays cls Bundle.tN "cause" "Ljava/lang/Throwable;", .lays cls Bundle.tN "stackTrace" Bundle.steD, .lays cls Bundle.tN "suppressedExceptions" Bundle.listD, .lays cls Bundle.tN "detailMessage" "Ljava/lang/String;", .isRef (.static Bundle.tN "UNASSIGNED_STACK" Bundle.steD), .isRef (.static Bundle.tN "SUPPRESSED_SENTINEL" Bundle.listD), .fieldLink Bundle.tN 198 Bundle.tN "backtrace" "Ljava/lang/Object;", .lays Bundle.tN Bundle.tN "backtrace" "Ljava/lang/Object;", .lays cls Bundle.tN "backtrace" "Ljava/lang/Object;"] : List Cond), w.before args s = true := by
    intro w hw
    refine hA w (by simp only [Bundle.ownAtoms, List.mem_append]; exact Or.inr hw) ?_ ?_
    · rintro rfl
      simp at hw
    · rintro rfl
      simp at hw
      exact hne.2.2.2 hw.1.symm
  have w1 := tailW _ (List.mem_of_getElem? (i := 0) rfl)
  have w2 := tailW _ (List.mem_of_getElem? (i := 1) rfl)
  have w3 := tailW _ (List.mem_of_getElem? (i := 2) rfl)
  have w4 := tailW _ (List.mem_of_getElem? (i := 3) rfl)
  have w5 := tailW _ (List.mem_of_getElem? (i := 4) rfl)
  have w6 := tailW _ (List.mem_of_getElem? (i := 5) rfl)
  have w7 := tailW _ (List.mem_of_getElem? (i := 6) rfl)
  have w8 := tailW _ (List.mem_of_getElem? (i := 7) rfl)
  have w9 := tailW _ (List.mem_of_getElem? (i := 8) rfl)
  have w10 := tailW _ (List.mem_of_getElem? (i := 9) rfl)
  have w11 := tailW _ (List.mem_of_getElem? (i := 10) rfl)
  have w12 := tailW _ (List.mem_of_getElem? (i := 11) rfl)
  have w13 := tailW _ (List.mem_of_getElem? (i := 12) rfl)
  have w14 := tailW _ (List.mem_of_getElem? (i := 13) rfl)
  have wT : ∀ x ∈ Bundle.throwableAtoms, x.before args s = true := by
    intro x hx
    refine hA x (by simp only [Bundle.ownAtoms, List.mem_append]; exact Or.inl (Or.inl (Or.inl hx))) ?_ ?_
    · rintro rfl
      simp [Bundle.throwableAtoms, Bundle.initS, Bundle.tInit0, Bundle.oInit] at hx
    · rintro rfl
      simp [Bundle.throwableAtoms] at hx
  have wS : ∀ x ∈ Bundle.throwableSAtoms, x.before args s = true := by
    intro x hx
    refine hA x (by simp only [Bundle.ownAtoms, List.mem_append]; exact Or.inl (Or.inl (Or.inr hx))) ?_ ?_
    · rintro rfl
      simp only [Bundle.throwableSAtoms, List.mem_cons, List.not_mem_nil, or_false, Cond.code.injEq, reduceCtorEq, false_or] at hx
      exact hin3 hx.1
    · rintro rfl
      simp [Bundle.throwableSAtoms] at hx
  have wC : ∀ x ∈ Bundle.chainSAtoms bk_R ["java/lang/Exception"], x.before args s = true := by
    intro x hx
    refine hA x (by simp only [Bundle.ownAtoms, List.mem_append]; exact Or.inl (Or.inr (by simp only [bk_up, Bundle.chainSAtoms, List.mem_append]; exact Or.inr (by simpa only [Bundle.chainSAtoms, List.mem_append, bk_R] using hx)))) ?_ ?_
    · rintro rfl
      simp only [Bundle.chainSAtoms, Bundle.passSAtoms, List.mem_append, List.mem_cons, List.not_mem_nil, or_false, Cond.code.injEq, reduceCtorEq, false_or] at hx
      rcases hx with h | h
      · exact hin h.1
      · exact hin2 h.1
    · rintro rfl
      simp only [Bundle.chainSAtoms, Bundle.passSAtoms, List.mem_append, List.mem_cons, List.not_mem_nil, or_false, Cond.methodLink.injEq, reduceCtorEq, false_or] at hx
      rcases hx with h | h
      · exact hne.1 h.1
      · exact hne.2.1 h.1
  have wP : ∀ x ∈ Bundle.passSAtoms cls bk_R ix rx, x.before args s = true := by
    intro x hx
    simp only [Bundle.passSAtoms, List.mem_cons, List.not_mem_nil, or_false] at hx
    have hm : ∀ y ∈ Bundle.passSAtoms cls bk_R 7 Bundle.six, y ∈ Bundle.ownAtoms own ic cls bk_up := by
      intro y hy
      simp only [Bundle.ownAtoms, List.mem_append]
      exact Or.inl (Or.inr (by simp only [bk_up, Bundle.chainSAtoms, List.mem_append]; exact Or.inl hy))
    rcases hx with rfl | rfl | rfl | rfl | rfl
    · exact hA _ (hm _ (by simp [Bundle.passSAtoms])) (by simp) (by simp)
    · exact hc9
    · exact hm9
    · exact hA _ (hm _ (by simp [Bundle.passSAtoms])) (by simp) (by simp)
    · exact hA _ (hm _ (by simp [Bundle.passSAtoms])) (by simp) (by simp)
  obtain ⟨T, Z0, L, -, Y⟩ := ThrowableC.of_atoms (args := args) howns hfin hpl wT
  obtain ⟨Z, M, LZ, LM, hnZ⟩ := Init0T.ofS_atoms (args := args) hpl L Y wS
  obtain ⟨P1, L1, hP1m, hs1⟩ := PassC.ofS_atoms (args := args) (s := s) hpl (X := cls) (Y := bk_R) (Bundle.fit_spec hcls).1 (by decide) x0 x1 x2 x5 wP
  obtain ⟨P2, Ps, hlen, L2, hL, hP2m, hlink2, hlink⟩ := Bundle.chainS (args := args) hpl hnZ ["java/lang/Exception"] bk_R (by decide) (by decide) wC
  have hsup : P1.sup = P2.m := Option.some.inj (hs1.symm.trans hP2m)
  have hfound : s.vm.findClass cls = some P1.m.cls := findClass_of_methodNamed hP1m
  cases Option.some.inj (hfoundX.symm.trans hfound)
  obtain ⟨c1, kX', hc1, hk, hord, -, -, hn6⟩ := Cond.instantiable_spec w2
  cases Option.some.inj (hc1.symm.trans hfound)
  cases Option.some.inj (hkX.symm.trans hk)
  have hsel0 : selectMethod e.platform s.vm P1.m.cls T.fill0 = .method T.fill0 := by
    obtain ⟨c2, r2, m2, q1, q2, q3, q4, -⟩ := Cond.selects_spec w4
    cases Option.some.inj (q1.symm.trans hfound)
    cases Option.some.inj (q2.symm.trans (State.methodFound?_of_named Y.fill0 (by decide)))
    cases Option.some.inj (q3.symm.trans Y.fill0)
    rw [Launch.admits_selectMethod X.admits]; exact q4
  have hselF : selectMethod e.platform s.vm P1.m.cls T.fill = .method T.fill := by
    obtain ⟨c2, r2, m2, q1, q2, q3, q4, -⟩ := Cond.selects_spec w5
    cases Option.some.inj (q1.symm.trans hfound)
    cases Option.some.inj (q2.symm.trans (State.methodFound?_of_named Y.fill (by decide)))
    cases Option.some.inj (q3.symm.trans Y.fill)
    rw [Launch.admits_selectMethod X.admits]; exact q4
  obtain ⟨cellS0, hcS0, hiss⟩ := Y.statics
  obtain ⟨u0, hu0⟩ := Cond.staticRefV Y.unassigned L.unassignedStatic L.statics hcS0 hiss w10
  obtain ⟨sen, hsen⟩ := Cond.staticRefV Y.sentinel L.sentinelStatic L.statics hcS0 hiss w11
  obtain ⟨ci198, i198, fB, hk198, hg198, ha198, hsB, -, hnB, htB, hffB⟩ := Cond.ownField (t := .object "java/lang/Object") Y.found L.cls (by decide +kernel) w12 w13 e.platform hpl
  obtain ⟨cellS, hcS', heS, -, hkeep⟩ := X.same.2.2.2.2.2 T.aS cellS0 hcS0
  have hcellS : W.heap[T.aS]? = some cellS := hcS'
  have hout' : ∀ i, (⟨T.aS, i⟩ : Loc) ∉ locs := fun i hmem => by
    have := hlocs _ hmem cellS0 hcS0
    rw [hiss] at this; cases this
  have hknownS : cellS.vm ≠ .unknown := by
    rw [heS]; intro hu
    rw [show cellS0.vm = .unknown from hu] at hiss
    cases hiss
  have hneS : T.aS ≠ a := Nat.ne_of_lt (Nat.lt_of_lt_of_le (Array.getElem?_eq_some_iff.mp hcS0).1 hnew)
  obtain ⟨iM, hffM⟩ := Y.msg
  obtain ⟨tyC, dC, hdC, hdnC⟩ := Cond.laysAt hfound hk Y.cause w6
  obtain ⟨tyS, dS, hdS, hdnS⟩ := Cond.laysAt hfound hk Y.stack w7
  obtain ⟨tyP, dP, hdP, hdnP⟩ := Cond.laysAt hfound hk Y.supp w8
  obtain ⟨tyM, dM, hdM, hdnM⟩ := Cond.laysAt hfound hk hffM w9
  obtain ⟨tyB, dB, hdB, hdnB⟩ := Cond.laysAt hfound hk hffB w14
  have bC := Cond.laysApart hdB hdC hdnB hdnC (by rw [hnB, Y.causeName]; decide)
  have bS := Cond.laysApart hdB hdS hdnB hdnS (by rw [hnB, Y.stackName]; decide)
  have bP := Cond.laysApart hdB hdP hdnB hdnP (by rw [hnB, Y.suppName]; decide)
  have hskip : SkipFacts T e.platform s (fun u => u) u0 ((preparedCellV T.toThrowableT (freshCell P1.m.cls kX) a u0 sen).withEntry W.cur) :=
    ⟨{ ci198 := ci198, i198 := i198, fBack := fB }, ⟨hk198, hg198, ha198, hsB⟩, by
      have := fresh_default (c := P1.m.cls) tyB
      rw [htB] at this
      simpa [preparedCellV, Cell.setSlot, Cell.withEntry, Array.getElem?_setIfInBounds, bC, bS, bP, bC.symm, bS.symm, bP.symm, defaultValue] using this, fun _ _ => rfl⟩
  obtain ⟨tm, methC, cdC, kC, vm₁, hnC, -, -, -, -, -, -, -, hW₁, st1⟩ := Steps.initColdS (tb := p.tables) (e := e) (below := below) (s := s) (U := W) X.here hexec X.warmed hpl hown (t := Bundle.initS cls) rfl rfl (Bundle.fit_spec hcls).2
    w1 (wP (.instanceMethod (Bundle.initS cls)) (by simp [Bundle.passSAtoms])) (bytes := rx) (maxL := 2) hc9 (f := g) hg (a := a) (msg := msg) (rest := .ref a :: rest) hstack hd6
  cases Option.some.inj (hnC.symm.trans hP1m)
  have X₁ := X.noted hW₁
  obtain ⟨vm₂, X₂, st2⟩ := X₁.ctorMessageOffV hexec (g := { g with stack := .ref a :: rest }) hg hsize T L Z LZ M LM (P1 :: P2 :: Ps)
    (fun P hP => by
      rcases List.mem_cons.mp hP with rfl | hP
      · exact L1
      · rcases List.mem_cons.mp hP with rfl | hP
        · exact L2
        · exact hL P hP) ⟨hsup, hlink2, hlink⟩ (u0 := u0) (sen := sen) (self := a) hmsg (cell := freshCell P1.m.cls kX) (cellS := cellS)
    hcell (fun _ => by simp) (by simp) rfl rfl hsel0 hselF hcellS hneS hknownS (by rw [hkeep _ (hout' _)]; exact hu0) (by rw [hkeep _ (hout' _)]; exact hsen)
    (Takes.of_laid hk hord tyC (by rw [Y.causeType]; rfl)) (Takes.of_laid hk hord tyS (by rw [Y.stackType]; exact fits_refV_array _ u0)) (Takes.of_laid hk hord tyP (by rw [Y.suppType]; exact fits_refV_object _ sen))
    (Takes.of_laid hk hord tyM (by rw [Y.msgType]; exact fits_refV_object _ ⟨msg, hmsg⟩)) Y.objLocals hskip htr [] hd6
    (by simp only [List.length_cons, hlen, List.length_nil]; omega) (by simp only [List.length_cons, hlen, List.length_nil]; exact hRlocals)
  obtain ⟨hwalk, hrun, hended, hWU, hsame⟩ := X₂.athrowLeaves hexec (g := { g with stack := .ref a :: rest, pc := g.pc + 3 }) hg hlocked hentered hout (a := a) (rest := rest) rfl hd9
  have hlt : a < ((W.setVm vm₁).setVm vm₂).heap.size := (Array.getElem?_eq_some_iff.mp hcell).1
  have hU := heapAt_setCell_self (s := (W.setVm vm₁).setVm vm₂) (plainBareV T.toThrowableT (freshCell P1.m.cls kX) a u0 sen msg) hlt
  refine ⟨_, st1 _ (fun acts => ?_), hrun, hended, hWU, hsame.weaken (fun y hy hlt' => ?_) (Nat.le_refl _) (Nat.le_refl _), _, hU, rfl, hfound⟩
  · rw [doInvoke_state]
    exact st2 _ hwalk
  · rcases List.mem_append.mp hy with h1 | h1
    · exact h1
    · exfalso
      have hb : y.base = a := by
        simp only [List.mem_cons, List.not_mem_nil, or_false] at h1
        rcases h1 with rfl | rfl | rfl | rfl | rfl <;> rfl
      rw [hb] at hlt'
      exact Nat.not_lt.mpr hnew hlt'
end

/-- the words of such a throw but the four that speak of the heap, and the two that don't fit -/
def bk_tx (own : String) (ic : Nat) (cls : String) : List Cond := (vx_atS own ic cls bk_up).filter (fun w => decide (w ≠ .code (Bundle.initS cls) Bundle.six 2 none) && decide (w ≠ .methodLink cls 7 (Bundle.initS bk_R)))
section
variable {p : Program} {l : Launch} {e : Env} {R : Room} {s : State} {m : MethodId} {args : Array Value} {below : List Frame} {meth : Method} {c : Code} {H : Heap} {locs : List Loc} {cells slots : Nat}
variable {cc : ByteArray} {pc : Nat} {ls : Array Slot} {rest : List Value} {G : bk_G} {Y : bk_Lay} {V : bk_Val} {own : String} {nL : Nat} {ret : Option FieldType}
set_option maxHeartbeats 2000000 in
theorem bk_throwX {α : Type} {Qc : Array Value → State → Outcome → State → Prop} {MC MS : Nat} {out : Nat ⊕ α} (C : bk_C G p s m args meth c cc own nL ret) (hst : l.stackTraces = false) (hT9 : ∀ x ∈ c.exceptionTable.toList, False) (hH : bk_H G Y V s.heap H locs) (hls : ls.size = nL) {ik is ic i ix e9 dl : Nat} {tx : String} {rx : ByteArray} (ho : out = .inl e9) (hi : bk_strs[i]? = some (own, is, tx))
    (x0 : decode rx 0 = .ok (.aload_n 0, 1)) (x1 : decode rx 1 = .ok (.aload_n 1, 1)) (x2 : decode rx 2 = .ok (.invokespecial ix, 3)) (x5 : decode rx 5 = .ok (.return_, 1))
    (w1 : Cond.classLink own ik (bk_exc e9) ∈ bk_GW) (w2 : Cond.initialized (bk_exc e9) ∈ bk_GW) (w3 : Cond.code (Bundle.initS (bk_exc e9)) rx 2 none ∈ bk_GW) (w4 : Cond.methodLink (bk_exc e9) ix (Bundle.initS bk_R) ∈ bk_GW) (hcls : Bundle.fit (bk_exc e9) = true) (hne : bk_exc e9 ≠ bk_R ∧ bk_exc e9 ≠ "java/lang/Exception" ∧ bk_exc e9 ≠ Bundle.tN ∧ own ≠ bk_exc e9)
    (h1 : ∀ w ∈ (bk_tx own ic (bk_exc e9)).filter goodWord, w ∈ lw_tbl) (h2 : ∀ w ∈ (bk_tx own ic (bk_exc e9)).filter (fun w => !goodWord w), w ∈ bk_nest) (hg : ∀ w ∈ Cond.classLink own ik (bk_exc e9) :: Cond.initialized (bk_exc e9) :: Cond.code (Bundle.initS (bk_exc e9)) rx 2 none :: Cond.methodLink (bk_exc e9) ix (Bundle.initS bk_R) :: bk_tx own ic (bk_exc e9), vx_ot w = true)
    (d0 : decode cc pc = .ok (.new ik, 3)) (d3 : decode cc (pc + 3) = .ok (.dup, 1)) (d4 : (dl = 2 ∧ decode cc (pc + 4) = .ok (.ldc is, 2)) ∨ (dl = 3 ∧ decode cc (pc + 4) = .ok (.ldc_w is, 3))) (d6 : decode cc (pc + 4 + dl) = .ok (.invokespecial ic, 3)) (d9 : decode cc (pc + 4 + dl + 3) = .ok (.athrow, 1))
    (hRf : 5 < R.frames) (hRl : (rest.map fun v => v.category).sum + 82 ≤ R.locals) (hRc : cells + 1 ≤ R.cells) (hRs : slots + 6 ≤ R.slots) (hc : cells + 1 ≤ MC) (hs : slots + 6 ≤ MS) :
    W p l e R s m args below meth c H locs cells slots (vx_MQ below Qc (bk_XC G Y V out) args s MC MS (bk_A G)) (F0 m pc ls rest) := by
  obtain ⟨hexec, hb, hml, hown, hts, -, hlocks, hE⟩ := id C
  obtain ⟨-, hnest, hstr, ⟨-, -, -, -, -, -, zU, zN⟩, -⟩ := id hE
  generalize hcl0 : bk_exc e9 = cls at w1 w2 w3 w4 hcls hne h1 h2 hg
  intro T hT X
  have htr : e.platform.stackTraces = false := (show e.platform.stackTraces = l.stackTraces by rw [X.admits.platform]).trans hst
  have Y9 := vx_rebase X (R' := { frames := R.frames, locals := R.locals, cells := 1, slots := 6 }) (Nat.le_refl _) (Nat.le_refl _) hRc hRs
  obtain ⟨s', hA⟩ : ∃ z, z = (T.setVm s.vm).setFrames (.invoking m args :: below) := ⟨_, rfl⟩
  rw [← hA] at Y9
  have hvm : s'.vm = s.vm := by rw [hA]; rfl
  have hhp : s'.heap = H := by rw [hA]; exact hT
  have hW0 : s.WarmedH s'.vm := by rw [hvm]; exact State.WarmedH.refl s
  have hgood : ∀ w, w ∈ bk_tx own ic cls → w.before args s = true := by
    refine vx_hat (B := bk_nest) (fun w hw => hts w (List.mem_filter.mpr ⟨h1 w hw, (List.mem_filter.mp hw).2⟩)) h2 (fun w hw => ?_)
    have h := hnest w hw
    simp only [bk_nest, List.mem_cons, List.not_mem_nil, or_false] at hw
    rcases hw with rfl | rfl | rfl | rfl | rfl | rfl | rfl | rfl | rfl | rfl | rfl | rfl | rfl | rfl | rfl | rfl | rfl | rfl | rfl <;> exact h.use rfl
  have mv : ∀ w, vx_ot w = true → w.before args s = true → w.before args s' = true := fun w hw h => vx_ot_at hW0 hvm.symm hw h
  have hk' := mv _ (hg _ (List.mem_of_getElem? (i := 0) rfl)) (hts _ w1)
  have hini' := mv _ (hg _ (List.mem_of_getElem? (i := 1) rfl)) (hts _ w2)
  have hc9 := mv _ (hg _ (List.mem_of_getElem? (i := 2) rfl)) (hts _ w3)
  have hm9 := mv _ (hg _ (List.mem_of_getElem? (i := 3) rfl)) (hts _ w4)
  have hS := hH.2.1
  have hU' : vx_Zq Bundle.tN "UNASSIGNED_STACK" Bundle.steD (bk_A G) s' s'.heap := by rw [hhp]; exact vx_Zq.moved hW0.alike (zU.kept hS.2.1)
  have hN' : vx_Zq Bundle.tN "SUPPRESSED_SENTINEL" Bundle.listD (bk_A G) s' s'.heap := by rw [hhp]; exact vx_Zq.moved hW0.alike (zN.kept hS.2.1)
  have hwA : bk_wA own ic cls args s' := by
    intro w hw n1 n2
    by_cases q1 : w = .isRef (.static Bundle.tN "UNASSIGNED_STACK" Bundle.steD)
    · rw [q1]; exact vx_isRefq hU'.1
    · by_cases q2 : w = .isRef (.static Bundle.tN "SUPPRESSED_SENTINEL" Bundle.listD)
      · rw [q2]; exact vx_isRefq hN'.1
      · by_cases q3 : w = .laysStatic Bundle.tN "UNASSIGNED_STACK" Bundle.steD
        · rw [q3]; exact hU'.2.word
        · by_cases q4 : w = .laysStatic Bundle.tN "SUPPRESSED_SENTINEL" Bundle.listD
          · rw [q4]; exact hN'.2.word
          · have hin : w ∈ bk_tx own ic cls := List.mem_filter.mpr ⟨List.mem_filter.mpr ⟨hw, by unfold vx_no; rw [decide_eq_true q1, decide_eq_true q2, decide_eq_true q3, decide_eq_true q4]; rfl⟩, by rw [decide_eq_true n1, decide_eq_true n2]; rfl⟩
            exact mv w (hg w (List.mem_cons_of_mem _ (List.mem_cons_of_mem _ (List.mem_cons_of_mem _ (List.mem_cons_of_mem _ hin))))) (hgood w hin)
  have hown' : s'.vm.findClass own = some m.cls := by rw [hvm]; exact hown
  have hins : (Cond.instantiable cls 6).before args s' = true := hwA _ (by simp [Bundle.ownAtoms]) (by simp) (by simp)
  obtain ⟨vm₁, cX, kX, hfX, hkX, -, -, X₁, st1⟩ := Y9.newCold hexec (own := own) (C := cls) (index := ik) (n := 6) hown' hk' hins hini' (g := F0 m pc ls rest) rfl (by rw [hb]; exact d0) (Nat.le_refl _) (Nat.le_refl _)
  generalize hT1 : (T.setVm vm₁).pushCell { cls := cX, slots := kX.instanceTypes.map defaultValue, vm := .none } = T1 at X₁ st1
  have hcat : (Value.ref T.heap.size).category = 1 := rfl
  have hcellA : T1.heap[T.heap.size]? = some (freshCell cX kX) := by rw [← hT1]; exact State.heap_pushCell_size _ _
  have d3' : decode c.code (pc + 3) = .ok (.dup, 1) := by rw [hb]; exact d3
  have hstr' : vk_R own is tx (G.2.2.2.1 i) s' := vk_R.warm hW0 (hstr i _ hi).1
  obtain ⟨U, hsteps, hrun, hend, hW, hsame, ce, hce, hcv, hccl⟩ := bk_ctorS X₁ hexec htr (own := own) (cls := cls) (ic := ic) x0 x1 x2 x5 hown' hcls hne hwA hc9 hm9 (fun x hx => nomatch hx) hfX hkX hcellA (by rw [hhp, hT]; exact Nat.le_refl _) (msg := .ref (G.2.2.2.1 i)) rfl
    (g := { method := m, pc := pc + 4 + dl, locals := ls, stack := .ref (G.2.2.2.1 i) :: .ref T.heap.size :: .ref T.heap.size :: rest, locked := none }) rfl (by show ls.size = _; rw [hls, hml]) rfl rfl (rest := rest) rfl
    (by rw [hb]; exact d6) (by rw [hb]; exact d9) (fun x hx => absurd hx (fun h => hT9 x h)) hRf (by
      show 2 * 0 + _ + 81 ≤ R.locals
      simp only [List.map_cons, List.sum_cons, hcat]
      omega) hlocks
  obtain ⟨f1, f2⟩ := vx_frame hsame
  rw [hhp] at f1 f2
  have hWs : s.WarmedH U.vm := State.WarmedH.trans hW0 hW
  have hcl : s.vm.findClass cls = some ce.cls := by
    rw [hvm] at hccl
    exact hccl
  have hall : s.sameButNew ({ U with vm := s.vm } : State) locs MC MS := by
    subst hA
    obtain ⟨e1, e2⟩ := hsame
    rw [State.setFrames_setFrames] at e1
    have h2 : (T.setVm s.vm).sameButNew ({ U with vm := s.vm } : State) [] (0 + 1) (0 + 6) := ⟨e1, e2⟩
    have h3 := X.same.trans h2
    rw [List.append_nil] at h3
    exact h3.mono hc hs
  have hXC : bk_XC G Y V out cls s U := ⟨e9, ho, hcl0.symm, hH.1.thrown f1 (fun q hq => f2 q hq (fun z hz => nomatch hz)), ⟨Nat.le_trans hH.2.1.1 f1, fun q g1 g2 => by rw [f2 q (Nat.lt_of_lt_of_le g1 hH.2.1.1) (fun z hz => nomatch hz)]; exact hH.2.1.2.1 q g1 g2⟩⟩
  refine ⟨U, ?_, .threw T.heap.size, hrun, hend, Or.inr ⟨T.heap.size, rfl, cls, ce, locs, hXC, hce, hcv, hcl, hWs, hall, hH.2.1.2.2⟩⟩
  refine st1 _ ?_
  show Steps p.tables e below (T1.setTop { method := m, pc := pc + 3, locals := ls, stack := .ref T.heap.size :: rest, locked := none }) _
  jvm_step X₁.here [X₁.here.top, hexec, d3', Value.category]
  rcases d4 with ⟨rfl, d4⟩ | ⟨rfl, d4⟩
  · exact X₁.ldcString hexec (own := own) (text := tx) (index := is) (a := G.2.2.2.1 i) hown' hstr'.1 hstr'.2
      (g := { method := m, pc := pc + 4, locals := ls, stack := .ref T.heap.size :: .ref T.heap.size :: rest, locked := none }) rfl (by rw [hb]; exact d4) _ hsteps
  · exact X₁.ldcStringW hexec (own := own) (text := tx) (index := is) (a := G.2.2.2.1 i) hown' hstr'.1 hstr'.2
      (g := { method := m, pc := pc + 4, locals := ls, stack := .ref T.heap.size :: .ref T.heap.size :: rest, locked := none }) rfl (by rw [hb]; exact d4) _ hsteps
end
