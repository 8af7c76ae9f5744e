def bk_chr (w : Nat) (i : Int32) : Int32 := bk_i2c ((bk_byt.getD w []).getD i.toNatClampNeg 0 &&& 255)
def bk_cpL (V : bk_Val) (a0 a sp dp n : Nat) : bk_Val := (V.1, va_up V.2 a (va_cpy (V.2 a0) (V.2 a) sp dp n))
def bk_nc (Y : bk_Lay) (V : bk_Val) (a : Nat) : bk_Val := (va_up V.1 Y.2.2 (fun _ => 0), va_up V.2 Y.2.2 (V.2 a))
section
variable {p : Program} {l : Launch} {e : Env} {R : Room} {s : State} {m : MethodId} {args : Array Value} {below : List Frame} {meth : Method} {c : Code} {H : Heap} {locs : List Loc} {cells slots : Nat} {Q : State → Prop}
variable {cc : ByteArray} {pc : Nat} {ls : Array Slot} {rest : List Value} {G : bk_G} {Y Y1 : bk_Lay} {V V1 : bk_Val} {own : String} {nL : Nat} {ret : Option FieldType}
variable {y : MethodName} {bytes : ByteArray} {maxL n mc ms index : Nat} {rty : Option FieldType} {rm : Room} {As : List Value} {ro : Option Value} {st0 : List Value}
theorem bk_ldcS (C : bk_C G p s m args meth c cc own nL ret) {i : Nat} {tx : String} (hi : bk_strs[i]? = some (own, index, tx)) (hdg : decode cc pc = .ok (.ldc index, 2)) (k : W p l e R s m args below meth c H locs cells slots Q (F0 m (pc + 2) ls (.ref (G.2.2.2.1 i) :: rest))) : W p l e R s m args below meth c H locs cells slots Q (F0 m pc ls rest) :=
  va_ldcS C.1 C.2.1 C.2.2.2.1 (C.2.2.2.2.2.2.2.2.2.1 i _ hi).1 hdg k
theorem bk_ldcSW (C : bk_C G p s m args meth c cc own nL ret) {i : Nat} {tx : String} (hi : bk_strs[i]? = some (own, index, tx)) (hdg : decode cc pc = .ok (.ldc_w index, 3)) (k : W p l e R s m args below meth c H locs cells slots Q (F0 m (pc + 3) ls (.ref (G.2.2.2.1 i) :: rest))) : W p l e R s m args below meth c H locs cells slots Q (F0 m pc ls rest) := by
  intro T hT X
  obtain ⟨t, a1, b1⟩ := k T hT X
  have hZ := (C.2.2.2.2.2.2.2.2.2.1 i _ hi).1
  exact ⟨t, X.ldcStringW C.1 C.2.2.2.1 (text := tx) (a := G.2.2.2.1 i) hZ.1 hZ.2 (g := F0 m pc ls rest) rfl (by rw [C.2.1]; exact hdg) t a1, b1⟩
theorem bk_gst0 (C : bk_C G p s m args meth c cc own nL ret) (hH : bk_H G Y V s.heap H locs) (hw : Cond.fieldLinkNest own index "BucketTube" "SETTING_LEAST" "[I" "BucketTube" ∈ bk_nest) (hdg : decode cc pc = .ok (.getstatic index, 3)) (k : W p l e R s m args below meth c H locs cells slots Q (F0 m (pc + 3) ls (.ref (G.2.2.2.2.2 0) :: rest))) : W p l e R s m args below meth c H locs cells slots Q (F0 m pc ls rest) :=
  va_getsN C.1 C.2.1 C.2.2.2.2.2.2.2.2.2.2.1.1 hH.2.1 C.2.2.2.1 ((C.2.2.2.2.2.2.2.2.1 _ hw).use rfl) (fun _ h => h) hdg k
theorem bk_gst1 (C : bk_C G p s m args meth c cc own nL ret) (hH : bk_H G Y V s.heap H locs) (hw : Cond.fieldLinkNest own index "BucketTube" "SETTING_MOST" "[I" "BucketTube" ∈ bk_nest) (hdg : decode cc pc = .ok (.getstatic index, 3)) (k : W p l e R s m args below meth c H locs cells slots Q (F0 m (pc + 3) ls (.ref (G.2.2.2.2.2 1) :: rest))) : W p l e R s m args below meth c H locs cells slots Q (F0 m pc ls rest) :=
  va_getsN C.1 C.2.1 C.2.2.2.2.2.2.2.2.2.2.1.2.2.1 hH.2.1 C.2.2.2.1 ((C.2.2.2.2.2.2.2.2.1 _ hw).use rfl) (fun _ h => h) hdg k
theorem bk_tld0 (C : bk_C G p s m args meth c cc own nL ret) (hH : bk_H G Y V s.heap H locs) {i : Int32} (hin : vp_in i 8) (hdg : decode cc pc = .ok (.iaload, 1)) (k : W p l e R s m args below meth c H locs cells slots Q (F0 m (pc + 1) ls (.int (bk_least.getD i.toNatClampNeg 0) :: rest))) : W p l e R s m args below meth c H locs cells slots Q (F0 m pc ls (.int i :: .ref (G.2.2.2.2.2 0) :: rest)) :=
  va_ti C.1 C.2.1 C.2.2.2.2.2.2.2.2.2.2.1.2.1 hH.2.1 hin rfl hdg k
theorem bk_tld1 (C : bk_C G p s m args meth c cc own nL ret) (hH : bk_H G Y V s.heap H locs) {i : Int32} (hin : vp_in i 8) (hdg : decode cc pc = .ok (.iaload, 1)) (k : W p l e R s m args below meth c H locs cells slots Q (F0 m (pc + 1) ls (.int (bk_most.getD i.toNatClampNeg 0) :: rest))) : W p l e R s m args below meth c H locs cells slots Q (F0 m pc ls (.int i :: .ref (G.2.2.2.2.2 1) :: rest)) :=
  va_ti C.1 C.2.1 C.2.2.2.2.2.2.2.2.2.2.1.2.2.2.1 hH.2.1 hin rfl hdg k
theorem bk_callV0 (C : bk_C G p s m args meth c cc own nL ret) (hH : bk_H G Y V s.heap H locs) (hls : ls.size = nL) {b : Nat} (hM : Met l y (bk_ws y bytes maxL rty) rm (bk_Pc G (.ref b :: As) Y V) (bk_Q G ro Y1 V1) mc ms (bk_A G)) (hm : bk_mc y bytes maxL rty n) (hv : bk_mv y) (hl : Cond.methodLink own index y ∈ bk_GW) (hrec : ∃ cellB : Cell, H[b]? = some cellB ∧ cellB.vm.isStatics = false ∧ s.vm.findClass y.cls = some cellB.cls)
    (hn : As.length = n) (hrc : rm.cells = mc ∧ rm.slots = ms) (hR : rm.frames + 1 ≤ R.frames ∧ 8 + (maxL + 11) + rm.locals ≤ R.locals) (hst : st0 = As.reverse ++ .ref b :: rest) (hW : (rest.map fun v => v.category).sum ≤ 8) (hdg : decode cc pc = .ok (.invokevirtual index, 3)) (hf : cells + mc ≤ R.cells ∧ slots + ms ≤ R.slots)
    (kk : ∀ (H1 : Heap) (locs1 : List Loc), bk_H G Y1 V1 s.heap H1 locs1 → W p l e R s m args below meth c H1 locs1 (cells + mc) (slots + ms) Q (F0 m (pc + 3) ls (ro.toList ++ rest))) : W p l e R s m args below meth c H locs cells slots Q (F0 m pc ls st0) := by
  obtain ⟨hx, hb, hml, hown, hts, -, -, hE⟩ := id C
  obtain ⟨m1, m2, m3, m4, m5⟩ := hm
  have hp : PreV s H y.cls b (bk_Pc G (.ref b :: As) Y V) As := ⟨bk_Pc_blind, hrec, fun U hU hW => bk_pre C hH hU hW⟩
  have S : CallFix p m c cc nL s args bk_GW own := ⟨hx, hb, hml, hown, hts⟩
  refine bk_after (a := (Value.ref b :: As).toArray) (rest := rest) (mc := mc) (ms := ms) ?_ hH kk
  exact va_runV S hM ⟨callB_of n hts (bk_good (y := y) (cc := cc) (nL := 0) (ret := none) m1) rfl hrc.1 hrc.2 (hts _ m2) (hts _ hl) ⟨m3, m4, m5⟩ hR, hts _ hv.1, hts _ hv.2⟩ hp rfl hn hls hst (lv_room hW) hdg hf
theorem bk_srec (C : bk_C G p s m args meth c cc own nL ret) (hH : bk_H G Y V s.heap H locs) {i : Nat} {q : String × Nat × String} (hi : bk_strs[i]? = some q) : ∃ cellB : Cell, H[G.2.2.2.1 i]? = some cellB ∧ cellB.vm.isStatics = false ∧ s.vm.findClass "java/lang/String" = some cellB.cls := by
  obtain ⟨cell, h1, h2, h3, -⟩ := (C.2.2.2.2.2.2.2.2.2.1 i q hi).2.1.kept hH.2.1.2.1
  exact ⟨cell, h1, h2, h3⟩
/-! a long array's copy -/
theorem bk_copyl (C : bk_C G p s m args meth c cc own nL ret) (hH : bk_H G Y V s.heap H locs) (hls : ls.size = nL) (hlink : Cond.methodLink own index arraycopyName ∈ bk_GW) (hnat : Cond.native arraycopyName ∈ bk_GW) (hstat : Cond.static arraycopyName ∈ bk_GW) (hini : Cond.initialized "java/lang/System" ∈ bk_GW)
    {a0 a n0 n1 : Nat} (hs0 : bk_sh Y a0 = (3, n0)) (hs1 : bk_sh Y a = (3, n1)) {sp dp nn : Int32} (h1 : ¬ sp < 0) (h2 : ¬ dp < 0) (h3 : ¬ nn < 0) (h4 : sp.toNatClampNeg + nn.toNatClampNeg ≤ n0) (h5 : dp.toNatClampNeg + nn.toNatClampNeg ≤ n1)
    (hframes : 1 ≤ R.frames) (hlocals : (rest.map fun v => v.category).sum + (nativeFrameWords "java/lang/System" "arraycopy" 5 + 11) ≤ R.locals) (hdg : decode cc pc = .ok (.invokestatic index, 3))
    (kk : ∀ (V1 : bk_Val) (H1 : Heap) (locs1 : List Loc), V1 = bk_cpL V a0 a sp.toNatClampNeg dp.toNatClampNeg nn.toNatClampNeg → bk_H G Y V1 s.heap H1 locs1 → W p l e R s m args below meth c H1 locs1 cells slots Q (F0 m (pc + 3) ls rest)) : W p l e R s m args below meth c H locs cells slots Q (F0 m pc ls (.int nn :: .int dp :: .ref a :: .int sp :: .ref a0 :: rest)) := by
  obtain ⟨hx, hb, hml, hown, hts, -, -, hE⟩ := id C
  have nnn : ∀ z : Int32, ¬ z < 0 → z.toInt = (z.toNatClampNeg : Int) := by
    intro z hz
    have hz0 : (0 : Int) ≤ z.toInt := by
      have := Int32.not_lt.mp hz
      simpa using Int32.le_iff_toInt_le.mp this
    show z.toInt = ((z.toInt.toNat : Nat) : Int)
    omega
  intro T hT X
  have hc0 := bk_arrL hH.1 hs0
  have hc1 := bk_arrL hH.1 hs1
  obtain ⟨-, k0, hk0, cm0, hkk0⟩ := (bk_ty hE).2.1 n0 (fun j => .long (V.2 a0 j))
  obtain ⟨-, k1, hk1, cm1, hkk1⟩ := (bk_ty hE).2.1 n1 (fun j => .long (V.2 a j))
  obtain ⟨vm', X', step⟩ := X.arraycopy hx hown (hts _ hlink) (hts _ hnat) (hts _ hstat) (hts _ hini) (src := a0) (dst := a) (cs := arrV (G.2.1 3) n0 (fun j => .long (V.2 a0 j))) (cd := arrV (G.2.1 3) n1 (fun j => .long (V.2 a j))) (srcPos := sp) (destPos := dp) (n := nn) (by rw [hT]; exact hc0) (by rw [hT]; exact hc1)
    (fun _ h => by cases h) (fun _ h => by cases h) (fun h => by cases h) (fun h => by cases h) hk0 hk1 hkk0 hkk1 (by simp [refKind]) h1 h2 h3
    (by rw [nnn sp h1, nnn nn h3, arrV_size]; omega)
    (by rw [nnn dp h2, nnn nn h3, arrV_size]; omega)
    (fun vm₁ _ i hi => by
      have e : (arrV (G.2.1 3) n0 (fun j => .long (V.2 a0 j))).slots.getD (sp.toNatClampNeg + i) .null = .long (V.2 a0 (sp.toNatClampNeg + i)) := by
        rw [Array.getD_eq_getD_getElem?, arrV_read _ _ (by omega)]
        rfl
      refine ⟨?_, ?_⟩
      · rw [e]; rfl
      · rw [e]; exact trivial)
    (g := F0 m pc ls (.int nn :: .int dp :: .ref a :: .int sp :: .ref a0 :: rest)) rfl (by show ls.size = _; rw [hls, hml]) (rest := rest) rfl (by rw [hb]; exact hdg) hframes (by show 2 * 0 + _ + _ ≤ _; omega)
  have e1 : copied (arrV (G.2.1 3) n0 (fun j => .long (V.2 a0 j))) (arrV (G.2.1 3) n1 (fun j => .long (V.2 a j))) sp dp nn = arrV (G.2.1 3) n1 (fun j => .long (va_cpy (V.2 a0) (V.2 a) sp.toNatClampNeg dp.toNatClampNeg nn.toNatClampNeg j)) := va_copied (fun z => .long z) (G.2.1 3) (G.2.1 3) (V.2 a0) (V.2 a) h4
  rw [e1] at X' step
  have hl : a < H.size := (Array.getElem?_eq_some_iff.mp hc1).1
  generalize hce : arrV (G.2.1 3) n1 (fun j => .long (va_cpy (V.2 a0) (V.2 a) sp.toNatClampNeg dp.toNatClampNeg nn.toNatClampNeg j)) = ce at X' step
  have hheap : ((T.setVm vm').setCell a ce).heap = H.setIfInBounds a ce := by rw [← hT]; rfl
  have oq : ∀ q : Nat, q ≠ a → (H.setIfInBounds a ce)[q]? = H[q]? := fun q hq => by simp [Array.getElem?_setIfInBounds, Ne.symm hq]
  have hA : bk_A G a := (hH.1.2.2 a (by rw [show Y.1 a = (3, n1) from hs1]; simp)).1
  obtain ⟨t, a1, b1⟩ := kk _ (H.setIfInBounds a ce) _ rfl ⟨hH.1.upd (Y1 := Y) (V1 := bk_cpL V a0 a sp.toNatClampNeg dp.toNatClampNeg nn.toNatClampNeg) rfl rfl (fun b hb => ⟨rfl, va_up_ne _ _ hb, rfl⟩) (bk_cell_L hs1 (by
      rw [show (H.setIfInBounds a ce)[a]? = some ce by simp [Array.getElem?_setIfInBounds, hl], ← hce]
      simp [bk_cpL, va_up_self])) (by simp) oq, ⟨by simp; exact hH.2.1.1, fun q g1 g2 => by
      rw [oq q (fun e => g2 (by rw [e]; exact hA))]
      exact hH.2.1.2.1 q g1 g2, fun q hq => by
      rcases List.mem_append.mp hq with h | h
      · exact hH.2.1.2.2 q h
      · obtain ⟨z, -, hz⟩ := List.mem_map.mp h
        rw [← hz]
        exact hA⟩, hH.2.2⟩ _ hheap X'
  exact ⟨t, step t a1, b1⟩
/-! a long array's clone -/
theorem bk_clone (C : bk_C G p s m args meth c cc own nL ret) (hH : bk_H G Y V s.heap H locs) (hls : ls.size = nL) (hlink : Cond.methodLink own index ⟨"[J", "clone", "()Ljava/lang/Object;"⟩ ∈ bk_GW) (hsame : Cond.sameMethod "[J" "java/lang/Object" "clone" "()Ljava/lang/Object;" ∈ bk_GW) (hnat : Cond.native ⟨"java/lang/Object", "clone", "()Ljava/lang/Object;"⟩ ∈ bk_GW) (hinst : Cond.instanceMethod ⟨"java/lang/Object", "clone", "()Ljava/lang/Object;"⟩ ∈ bk_GW) (hsel : Cond.selects "[J" ⟨"[J", "clone", "()Ljava/lang/Object;"⟩ ⟨"java/lang/Object", "clone", "()Ljava/lang/Object;"⟩ ∈ bk_GW) (hcl : Cond.castable "[J" "java/lang/Cloneable" ∈ bk_nest)
    {a n0 K : Nat} (hs : bk_sh Y a = (3, n0)) (hK : n0 ≤ K) (hframes : 1 ≤ R.frames) (hlocals : (rest.map fun v => v.category).sum + 14 ≤ R.locals) (hcells : cells + 1 ≤ R.cells) (hslots : slots + K ≤ R.slots) (hdg : decode cc pc = .ok (.invokevirtual index, 3))
    (kk : ∀ (Y1 : bk_Lay) (V1 : bk_Val) (H1 : Heap), Y1 = bk_nw Y (3, n0) → V1 = bk_nc Y V a → bk_H G Y1 V1 s.heap H1 locs → W p l e R s m args below meth c H1 locs (cells + 1) (slots + K) Q (F0 m (pc + 3) ls (.ref (bk_sz Y) :: rest))) : W p l e R s m args below meth c H locs cells slots Q (F0 m pc ls (.ref a :: rest)) := by
  obtain ⟨hx, hb, hml, hown, hts, -, -, hE⟩ := id C
  have hnm : s.vm.findClass "[J" = some (G.2.1 3) := (hE.1.2 1 _ rfl).2
  have hc0 := bk_arrL hH.1 hs
  generalize hce : arrV (G.2.1 3) n0 (fun j => .long (V.2 a j)) = ce at hc0
  have hsz : ce.slots.size = n0 := by rw [← hce]; exact arrV_size _ _ _
  have hvm0 : ce.vm = .none := by rw [← hce]; rfl
  have hcl0 : ce.cls = G.2.1 3 := by rw [← hce]; rfl
  have hcellE : ({ cls := ce.cls, slots := ce.slots } : Cell) = ce := by rw [← hce]; rfl
  obtain ⟨c0, t0', f1, f2, f3⟩ := Cond.castable_spec (va_Nw.use (A := args) rfl (hE.2.1 _ hcl))
  cases hnm.symm.trans f1
  intro T hT X
  have hcellT : T.heap[a]? = some ce := by rw [hT]; exact hc0
  obtain ⟨-, kA, hkA, comp, hkind⟩ := State.isArrayOf_alike X.warmed.alike ((bk_ty hE).2.1 0 (fun _ => .null))
  obtain ⟨-, kS, hkS, compS, hkindS⟩ := (bk_ty hE).2.1 0 (fun _ => .null)
  obtain ⟨vm', X', st⟩ := X.cloneArray hx hown (hts _ hlink) (hts _ hsame) (hts _ hnat) (hts _ hinst) (hts _ hsel) (a := a) (cell := ce) hcellT (fun k h => by rw [hvm0] at h; cases h) (by rw [hvm0]; exact fun h => by cases h) (by rw [hcl0]; exact hnm) f2 (by rw [hcl0]; exact f3)
    (fun i v hv => by
      rw [hcl0]
      have hk' : T.vm.classes[G.2.1 3]? = some kA := hkA
      have hft : fits .long v = true := by
        rw [← hce] at hv
        by_cases hi : i < n0
        · rw [arrV_read _ _ hi] at hv
          cases hv; rfl
        · rw [Array.getElem?_eq_none (by rw [arrV_size]; omega)] at hv
          cases hv
      simpa [State.fitsSlot, State.slotType?, hk', hkind] using hft)
    (g := F0 m pc ls (.ref a :: rest)) rfl (by show ls.size = _; rw [hls, hml]) rfl (by rw [hb]; exact hdg) hframes (by show 2 * 0 + _ + 14 ≤ _; omega) hcells (by rw [hsz]; omega) (hloader := by rw [hcl0]; exact Vm.clonesLoader_of_array hkS hkindS)
  rw [hcellE, hsz] at X'
  generalize hH1 : H.push ce = H1
  have z1 : H1.size = H.size + 1 := by rw [← hH1, Array.size_push]
  have e1 : H1[H.size]? = some ce := by rw [← hH1, Array.getElem?_push_size]
  have o1 : ∀ q : Nat, q < H.size → H1[q]? = H[q]? := fun q hq => by rw [← hH1, Array.getElem?_push, if_neg (Nat.ne_of_lt hq)]
  have hcell : bk_cell G (bk_nw Y (3, n0)) (bk_nc Y V a) Y.2.2 H1 := bk_cell_L (n := n0) (by show va_up Y.1 Y.2.2 _ Y.2.2 = _; rw [va_up_self]) (by
    rw [← hH.1.1, e1, ← hce, hH.1.1]
    simp [bk_nc, va_up_self])
  have hP1 : bk_P G (bk_nw Y (3, n0)) (bk_nc Y V a) H1 := by
    obtain ⟨p1, p2, p3⟩ := hH.1
    refine ⟨by rw [z1, p1]; rfl, fun b => ?_, fun b hb => ?_⟩
    · by_cases e : b = Y.2.2
      · rw [e]; exact hcell
      · by_cases e0 : (Y.1 b).1 = 0
        · unfold bk_cell
          rw [if_pos]
          · trivial
          · show (va_up Y.1 Y.2.2 (3, n0) b).1 = 0
            rw [va_up_ne _ _ e]; exact e0
        · exact (p2 b).kept (show va_up Y.1 Y.2.2 _ b = Y.1 b from va_up_ne _ _ e) (show va_up V.1 Y.2.2 _ b = V.1 b from va_up_ne _ _ e) (show va_up V.2 Y.2.2 _ b = V.2 b from va_up_ne _ _ e) (show va_up Y.2.1 Y.2.2 _ b = Y.2.1 b from va_up_ne _ _ e) (o1 b (by rw [p1]; exact (p3 b e0).2))
    · by_cases e : b = Y.2.2
      · rw [e]; exact ⟨by rw [← p1]; exact Nat.le_trans hH.2.2 hH.2.1.1, Nat.lt_succ_self _⟩
      · have h9 : (va_up Y.1 Y.2.2 (3, n0) b).1 ≠ 0 := hb
        rw [va_up_ne _ _ e] at h9
        exact ⟨(p3 b h9).1, Nat.lt_succ_of_lt (p3 b h9).2⟩
  obtain ⟨t, b1, b2⟩ := W.widen (k := cells + 1) (n := slots + K) (Nat.le_refl _) (by omega) (kk _ _ H1 rfl rfl ⟨hP1, ⟨Nat.le_trans hH.2.1.1 (by omega), fun x h1 h2 => (o1 x (Nat.lt_of_lt_of_le h1 hH.2.1.1)).trans (hH.2.1.2.1 x h1 h2), hH.2.1.2.2⟩, hH.2.2⟩)
    ((T.setVm vm').pushCell ce) (by rw [← hH1, ← hT]; rfl) X'
  refine ⟨t, st t ?_, b2⟩
  rw [hcellE, hT]
  rw [show bk_sz Y = H.size from hH.1.1.symm] at b1
  exact b1
theorem bk_castJ (C : bk_C G p s m args meth c cc own nL ret) (hH : bk_H G Y V s.heap H locs) (hlink : Cond.classLink own index "[J" ∈ bk_GW) {a n0 : Nat} (hs : bk_sh Y a = (3, n0)) (hdg : decode cc pc = .ok (.checkcast index, 3))
    (k : W p l e R s m args below meth c H locs cells slots Q (F0 m (pc + 3) ls (.ref a :: rest))) : W p l e R s m args below meth c H locs cells slots Q (F0 m pc ls (.ref a :: rest)) := by
  obtain ⟨hx, hb, hml, hown, hts, -, -, hE⟩ := id C
  refine va_castA (D := G.1) (cl := vwCl) (ws := [(a, .inl (G.2.1 3, n0, .inr (.inl (V.2 a))))]) hx hb hown (hts _ hlink) (fun k q h => ?_) 0 rfl ((hE.1.2 1 _ rfl).2) hdg k
  have hk : k = 0 := by
    have := (List.getElem?_eq_some_iff.mp h).1
    simp at this; exact this
  subst hk
  cases h
  exact bk_arrL hH.1 hs
end
