def bk_C (G : bk_G) (p : Program) (s : State) (m : MethodId) (args : Array Value) (meth : Method) (c : Code) (cc : ByteArray) (own : String) (nL : Nat) (ret : Option FieldType) : Prop :=
  p.tables.exec = Jvm.exec ∧ c.code = cc ∧ c.maxLocals = nL ∧ s.vm.findClass own = some m.cls ∧ (∀ w ∈ bk_GW, w.before args s = true) ∧ meth.sig.returnType = ret ∧ meth.locks = false ∧ bk_E G s
section
variable {p : Program} {l : Launch} {e : Env} {R : Room} {s : State} {m : MethodId} {args : Array Value} {below : List Frame} {meth : Method} {c : Code} {H : Heap} {locs : List Loc} {cells slots : Nat} {Q : State → Prop}
variable {cc : ByteArray} {pc : Nat} {ls : Array Slot} {rest : List Value} {G : bk_G} {Y : bk_Lay} {V : bk_Val} {own : String} {nL : Nat} {ret : Option FieldType}
theorem bk_get (C : bk_C G p s m args meth c cc own nL ret) (hH : bk_H G Y V s.heap H locs) {index ci k a : Nat} (hf : bk_fl own index ci k) (hs : bk_sh Y a = (1, ci)) (hdg : decode cc pc = .ok (.getfield index, 3))
    (kk : W p l e R s m args below meth c H locs cells slots Q (F0 m (pc + 3) ls (bk_fv Y V ci a k :: rest))) : W p l e R s m args below meth c H locs cells slots Q (F0 m pc ls (.ref a :: rest)) := by
  obtain ⟨hx, hb, -, hown, hts, -, -, hE⟩ := C
  obtain ⟨C0, T, N, ty, ⟨hc, hin, -⟩, hk, hl⟩ := hf
  obtain ⟨r, h1, cell, q1, q2, q3, q4⟩ := bk_obj hH.1 hs
  have hr : r = (C0, T, N) := Option.some.inj (h1.symm.trans hc)
  subst hr
  obtain ⟨hS, hfc, kC, hkC, hkind⟩ := hE.1.1 ci _ hc
  obtain ⟨cf, kf, fi, f, hi, hsl⟩ := hS k hk
  have hv : cell.slots[f.slot]? = some (bk_fv Y V ci a k) := by rw [hsl]; exact q4 k hk
  rcases hl with hl | ⟨host, hl⟩
  · exact W.getf hx hb hown (hts _ hl) hi (u_facts hfc hkC (u_lays hts hin hk) hi).1 q1 (by rw [q3]; exact fun h => by cases h) hv rfl rfl hdg kk
  · exact va_Wgetf hx hb hown ((hE.2.1 _ hl).use rfl) hi (u_facts hfc hkC (u_lays hts hin hk) hi).1 q1 (by rw [q3]; exact fun h => by cases h) hv rfl rfl hdg kk
theorem bk_geti (C : bk_C G p s m args meth c cc own nL ret) (hH : bk_H G Y V s.heap H locs) {index ci k a : Nat} (hf : bk_fl own index ci k) (hs : bk_sh Y a = (1, ci)) (hk : bk_kd ci k = 0) (hdg : decode cc pc = .ok (.getfield index, 3))
    (kk : W p l e R s m args below meth c H locs cells slots Q (F0 m (pc + 3) ls (.int (bk_rI V a k) :: rest))) : W p l e R s m args below meth c H locs cells slots Q (F0 m pc ls (.ref a :: rest)) := by
  refine bk_get C hH hf hs hdg ?_
  rw [show bk_fv Y V ci a k = .int (bk_rI V a k) by unfold bk_fv; rw [if_pos hk]; rfl]
  exact kk
theorem bk_getl (C : bk_C G p s m args meth c cc own nL ret) (hH : bk_H G Y V s.heap H locs) {index ci k a : Nat} (hf : bk_fl own index ci k) (hs : bk_sh Y a = (1, ci)) (hk : bk_kd ci k = 1) (hdg : decode cc pc = .ok (.getfield index, 3))
    (kk : W p l e R s m args below meth c H locs cells slots Q (F0 m (pc + 3) ls (.long (bk_rL V a k) :: rest))) : W p l e R s m args below meth c H locs cells slots Q (F0 m pc ls (.ref a :: rest)) := by
  refine bk_get C hH hf hs hdg ?_
  rw [show bk_fv Y V ci a k = .long (bk_rL V a k) by unfold bk_fv; rw [if_neg (by rw [hk]; decide), if_pos hk]; rfl]
  exact kk
theorem bk_getr (C : bk_C G p s m args meth c cc own nL ret) (hH : bk_H G Y V s.heap H locs) {index ci k a b : Nat} (hf : bk_fl own index ci k) (hs : bk_sh Y a = (1, ci)) (hk : bk_kd ci k = 2) (hr : bk_rR Y a k = some b) (hdg : decode cc pc = .ok (.getfield index, 3))
    (kk : W p l e R s m args below meth c H locs cells slots Q (F0 m (pc + 3) ls (.ref b :: rest))) : W p l e R s m args below meth c H locs cells slots Q (F0 m pc ls (.ref a :: rest)) := by
  refine bk_get C hH hf hs hdg ?_
  rw [show bk_fv Y V ci a k = .ref b by unfold bk_fv; rw [if_neg (by rw [hk]; decide), if_neg (by rw [hk]; decide)]; show va_rf (bk_rR Y a k) = _; rw [hr]; rfl]
  exact kk
theorem bk_getn (C : bk_C G p s m args meth c cc own nL ret) (hH : bk_H G Y V s.heap H locs) {index ci k a : Nat} (hf : bk_fl own index ci k) (hs : bk_sh Y a = (1, ci)) (hk : bk_kd ci k = 2) (hr : bk_rR Y a k = none) (hdg : decode cc pc = .ok (.getfield index, 3))
    (kk : W p l e R s m args below meth c H locs cells slots Q (F0 m (pc + 3) ls (.null :: rest))) : W p l e R s m args below meth c H locs cells slots Q (F0 m pc ls (.ref a :: rest)) := by
  refine bk_get C hH hf hs hdg ?_
  rw [show bk_fv Y V ci a k = .null by unfold bk_fv; rw [if_neg (by rw [hk]; decide), if_neg (by rw [hk]; decide)]; show va_rf (bk_rR Y a k) = _; rw [hr]; rfl]
  exact kk
theorem bk_put (C : bk_C G p s m args meth c cc own nL ret) (hH : bk_H G Y V s.heap H locs) {index ci k a : Nat} {fty : FieldType} {ctor : Bool} (hf : bk_fp own index ci k fty ctor) (hct : ctor = true → meth.name = "<init>") (hs : bk_sh Y a = (1, ci)) {v : Value} (hn : narrow fty v = v) (hfit : fits fty v = true)
    {Y1 : bk_Lay} {V1 : bk_Val} (e1 : Y1.1 = Y.1) (e2 : Y1.2.2 = Y.2.2) (e3 : ∀ b, b ≠ a → V1.1 b = V.1 b ∧ V1.2 b = V.2 b ∧ Y1.2.1 b = Y.2.1 b) (e4 : ∀ j, updV (bk_fv Y V ci a) k v j = bk_fv Y1 V1 ci a j) (hdg : decode cc pc = .ok (.putfield index, 3))
    (kk : ∀ (H1 : Heap) (locs1 : List Loc), bk_H G Y1 V1 s.heap H1 locs1 → W p l e R s m args below meth c H1 locs1 cells slots Q (F0 m (pc + 3) ls rest)) : W p l e R s m args below meth c H locs cells slots Q (F0 m pc ls (v :: .ref a :: rest)) := by
  obtain ⟨hx, hb, -, hown, hts, -, -, hE⟩ := C
  obtain ⟨C0, T, N, ty, ⟨hc, hin, hty, hnm, -⟩, hk, hfty, hl, hfin⟩ := hf
  have hap := va_apart (own := own) hts hin ty hty hnm hE.1 hc
  obtain ⟨r, h1, cell, q1, q2, q3, q4⟩ := bk_obj hH.1 hs
  have hr : r = (C0, T, N) := Option.some.inj (h1.symm.trans hc)
  subst hr
  obtain ⟨hS, hfc, kC, hkC, hkind⟩ := hE.1.1 ci _ hc
  obtain ⟨cf, kf, fi, f, hi, hsl⟩ := hS k hk
  have hlay := hts _ (hin _ (u_in_lay hk))
  unfold u_lay at hlay
  have hst := (u_facts hfc hkC (u_lays hts hin hk) hi).1
  have hd : parseFieldDescriptor (T k).2.2.1 = some fty := by rw [hty k hk, hfty]
  have fin : ∀ H' : Heap, H'[a]? = some (cell.setSlot f.slot v) → H'.size = H.size → (∀ q, q ≠ a → H'[q]? = H[q]?) → W p l e R s m args below meth c H' (locs ++ [⟨a, f.slot⟩]) cells slots Q (F0 m (pc + 3) ls rest) := by
    intro H' g1 g2 g3
    rw [hsl] at g1
    refine kk H' _ ⟨hH.1.upd e1 e2 e3 (bk_cell_obj (by rw [e1]; exact hs) ⟨_, hc, t_OB.to (V := updV (bk_fv Y V ci a) k v) ⟨_, g1, q2, q3, t_set q4 hap hk v⟩ (fun j _ => e4 j)⟩) g2 g3, hH.2.1.put g2 g3 (hH.1.2.2 a (by rw [show Y.1 a = (1, ci) from hs]; simp)).1, hH.2.2⟩
  rcases hfin with hfin | ⟨hcc, hfin, hdecl⟩
  · rw [if_neg (by rw [hfin]; decide)] at hlay
    have h6 := u_store hfc hkC hkind hlay hi hd hn hfit
    exact W.putK hx hb (f := f) ⟨hown, hts _ hl, ⟨_, _, _, hi⟩, hst⟩ (by rw [q2]; exact h6) q1 q3 (by rw [hsl]; exact k2_hasslot (q4 k hk)) rfl rfl hdg fin
  · rw [if_pos hfin] at hlay
    have hcf : m.cls = cf := by
      obtain ⟨_, _, c', _, _, _, -, -, hf', -, -, -, hown2, -⟩ := Cond.laysFinal_spec hlay
      have e1 : c' = cf := by have := hi.symm.trans hf'; simp at this; exact this.1.symm
      rw [hdecl] at hown2
      rw [← e1]; exact Option.some.inj (hown.symm.trans hown2)
    have h6 := u_fits hfc hkC hkind (Or.inr hlay) hi hd hn hfit
    exact W.putFinK hx hb hown (hts _ hl) hi hst hcf (hct hcc) (by rw [q2]; exact h6) q1 q3 (by rw [hsl]; exact k2_hasslot (q4 k hk)) rfl rfl hdg fin
theorem bk_fv_wI {ci a k : Nat} (hk : bk_kd ci k = 0) (x : Int32) (j : Nat) : updV (bk_fv Y V ci a) k (.int x) j = bk_fv Y (bk_wI V a k x) ci a j := by
  by_cases e : j = k
  · subst e; simp [updV, bk_fv, hk, bk_wI, bk_up2]
  · simp [updV, bk_fv, bk_wI, bk_up2, e]
theorem bk_fv_wL {ci a k : Nat} (hk : bk_kd ci k = 1) (x : Int64) (j : Nat) : updV (bk_fv Y V ci a) k (.long x) j = bk_fv Y (bk_wL V a k x) ci a j := by
  by_cases e : j = k
  · subst e; simp [updV, bk_fv, hk, bk_wL, bk_up2]
  · simp [updV, bk_fv, bk_wL, bk_up2, e]
theorem bk_fv_wR {ci a k : Nat} (hk : bk_kd ci k = 2) (x : Option Nat) (j : Nat) : updV (bk_fv Y V ci a) k (va_rf x) j = bk_fv (bk_wR Y a k x) V ci a j := by
  by_cases e : j = k
  · subst e; simp [updV, bk_fv, hk, bk_wR, bk_up2]
  · simp [updV, bk_fv, bk_wR, bk_up2, e]
theorem bk_puti (C : bk_C G p s m args meth c cc own nL ret) (hH : bk_H G Y V s.heap H locs) {index ci k a : Nat} {ctor : Bool} (hf : bk_fp own index ci k .int ctor) (hct : ctor = true → meth.name = "<init>") (hs : bk_sh Y a = (1, ci)) (hk : bk_kd ci k = 0) {x : Int32} (hdg : decode cc pc = .ok (.putfield index, 3))
    (kk : ∀ (V1 : bk_Val) (H1 : Heap) (locs1 : List Loc), V1 = bk_wI V a k x → bk_H G Y V1 s.heap H1 locs1 → W p l e R s m args below meth c H1 locs1 cells slots Q (F0 m (pc + 3) ls rest)) : W p l e R s m args below meth c H locs cells slots Q (F0 m pc ls (.int x :: .ref a :: rest)) :=
  bk_put (Y1 := Y) (V1 := bk_wI V a k x) C hH hf hct hs rfl rfl rfl rfl (fun b hb => ⟨bk_up2_off _ _ hb, rfl, rfl⟩) (bk_fv_wI hk x) hdg (fun H1 locs1 h => kk _ H1 locs1 rfl h)
theorem bk_z01 {x : Int32} (h : x = 0 ∨ x = 1) : narrow .boolean (.int x) = .int x ∧ fits .boolean (.int x) = true := by
  rcases h with rfl | rfl <;> decide
theorem bk_putz (C : bk_C G p s m args meth c cc own nL ret) (hH : bk_H G Y V s.heap H locs) {index ci k a : Nat} {ctor : Bool} (hf : bk_fp own index ci k .boolean ctor) (hct : ctor = true → meth.name = "<init>") (hs : bk_sh Y a = (1, ci)) (hk : bk_kd ci k = 0) {x : Int32} (h01 : x = 0 ∨ x = 1) (hdg : decode cc pc = .ok (.putfield index, 3))
    (kk : ∀ (V1 : bk_Val) (H1 : Heap) (locs1 : List Loc), V1 = bk_wI V a k x → bk_H G Y V1 s.heap H1 locs1 → W p l e R s m args below meth c H1 locs1 cells slots Q (F0 m (pc + 3) ls rest)) : W p l e R s m args below meth c H locs cells slots Q (F0 m pc ls (.int x :: .ref a :: rest)) :=
  bk_put (Y1 := Y) (V1 := bk_wI V a k x) C hH hf hct hs (bk_z01 h01).1 (bk_z01 h01).2 rfl rfl (fun b hb => ⟨bk_up2_off _ _ hb, rfl, rfl⟩) (bk_fv_wI hk x) hdg (fun H1 locs1 h => kk _ H1 locs1 rfl h)
theorem bk_putl (C : bk_C G p s m args meth c cc own nL ret) (hH : bk_H G Y V s.heap H locs) {index ci k a : Nat} {ctor : Bool} (hf : bk_fp own index ci k .long ctor) (hct : ctor = true → meth.name = "<init>") (hs : bk_sh Y a = (1, ci)) (hk : bk_kd ci k = 1) {x : Int64} (hdg : decode cc pc = .ok (.putfield index, 3))
    (kk : ∀ (V1 : bk_Val) (H1 : Heap) (locs1 : List Loc), V1 = bk_wL V a k x → bk_H G Y V1 s.heap H1 locs1 → W p l e R s m args below meth c H1 locs1 cells slots Q (F0 m (pc + 3) ls rest)) : W p l e R s m args below meth c H locs cells slots Q (F0 m pc ls (.long x :: .ref a :: rest)) :=
  bk_put (Y1 := Y) (V1 := bk_wL V a k x) C hH hf hct hs rfl rfl rfl rfl (fun b hb => ⟨rfl, bk_up2_off _ _ hb, rfl⟩) (bk_fv_wL hk x) hdg (fun H1 locs1 h => kk _ H1 locs1 rfl h)
theorem bk_putr (C : bk_C G p s m args meth c cc own nL ret) (hH : bk_H G Y V s.heap H locs) {index ci k a b : Nat} {fty : FieldType} {ctor : Bool} (hf : bk_fp own index ci k fty ctor) (hct : ctor = true → meth.name = "<init>") (hs : bk_sh Y a = (1, ci)) (hk : bk_kd ci k = 2) (hn : narrow fty (.ref b) = .ref b) (hfit : fits fty (.ref b) = true) (hdg : decode cc pc = .ok (.putfield index, 3))
    (kk : ∀ (Y1 : bk_Lay) (H1 : Heap) (locs1 : List Loc), Y1 = bk_wR Y a k (some b) → bk_H G Y1 V s.heap H1 locs1 → W p l e R s m args below meth c H1 locs1 cells slots Q (F0 m (pc + 3) ls rest)) : W p l e R s m args below meth c H locs cells slots Q (F0 m pc ls (.ref b :: .ref a :: rest)) :=
  bk_put (Y1 := bk_wR Y a k (some b)) (V1 := V) C hH hf hct hs hn hfit rfl rfl (fun b hb => ⟨rfl, rfl, bk_up2_off _ _ hb⟩) (bk_fv_wR hk (some b)) hdg (fun H1 locs1 h => kk _ H1 locs1 rfl h)
theorem bk_putn (C : bk_C G p s m args meth c cc own nL ret) (hH : bk_H G Y V s.heap H locs) {index ci k a : Nat} {fty : FieldType} {ctor : Bool} (hf : bk_fp own index ci k fty ctor) (hct : ctor = true → meth.name = "<init>") (hs : bk_sh Y a = (1, ci)) (hk : bk_kd ci k = 2) (hn : narrow fty .null = .null) (hfit : fits fty .null = true) (hdg : decode cc pc = .ok (.putfield index, 3))
    (kk : ∀ (Y1 : bk_Lay) (H1 : Heap) (locs1 : List Loc), Y1 = bk_wR Y a k none → bk_H G Y1 V s.heap H1 locs1 → W p l e R s m args below meth c H1 locs1 cells slots Q (F0 m (pc + 3) ls rest)) : W p l e R s m args below meth c H locs cells slots Q (F0 m pc ls (.null :: .ref a :: rest)) :=
  bk_put (Y1 := bk_wR Y a k none) (V1 := V) C hH hf hct hs hn hfit rfl rfl (fun b hb => ⟨rfl, rfl, bk_up2_off _ _ hb⟩) (bk_fv_wR hk none) hdg (fun H1 locs1 h => kk _ H1 locs1 rfl h)
/-! arrays -/
theorem bk_ty (hE : bk_E G s) : ArrOfT s (G.2.1 2) .int ∧ ArrOfT s (G.2.1 3) .long ∧ ArrOfT s (G.2.1 4) .byte ∧ ArrOfT s (G.2.1 5) .boolean := ⟨(hE.1.2 0 _ rfl).1, (hE.1.2 1 _ rfl).1, (hE.1.2 2 _ rfl).1, (hE.1.2 3 _ rfl).1⟩
theorem bk_in_lt {i : Int32} {n : Nat} (h : vp_in i n) : i.toNatClampNeg < n := Nat.not_le.mp fun q => h (Or.inr q)
theorem bk_iald (C : bk_C G p s m args meth c cc own nL ret) (hH : bk_H G Y V s.heap H locs) {a n : Nat} {i : Int32} (hs : bk_sh Y a = (2, n)) (hin : vp_in i n) (hdg : decode cc pc = .ok (.iaload, 1))
    (kk : W p l e R s m args below meth c H locs cells slots Q (F0 m (pc + 1) ls (.int (bk_rI V a i.toNatClampNeg) :: rest))) : W p l e R s m args below meth c H locs cells slots Q (F0 m pc ls (.int i :: .ref a :: rest)) := by
  obtain ⟨hx, hb, -, -, -, -, -, hE⟩ := C
  exact W.iald (v := .int (bk_rI V a i.toNatClampNeg)) hx hb (bk_arrI hH.1 hs (Or.inl rfl)) ((bk_ty hE).1 n (fun j => .int (V.1 a j))) (fun q => by cases q) (by rw [arrV_size]; exact hin) (by rw [arrV_read _ _ (bk_in_lt hin)]; rfl) rfl rfl hdg kk
theorem bk_lald (C : bk_C G p s m args meth c cc own nL ret) (hH : bk_H G Y V s.heap H locs) {a n : Nat} {i : Int32} (hs : bk_sh Y a = (3, n)) (hin : vp_in i n) (hdg : decode cc pc = .ok (.laload, 1))
    (kk : W p l e R s m args below meth c H locs cells slots Q (F0 m (pc + 1) ls (.long (bk_rL V a i.toNatClampNeg) :: rest))) : W p l e R s m args below meth c H locs cells slots Q (F0 m pc ls (.int i :: .ref a :: rest)) := by
  obtain ⟨hx, hb, -, -, -, -, -, hE⟩ := C
  exact W.lald (v := .long (bk_rL V a i.toNatClampNeg)) hx hb (bk_arrL hH.1 hs) ((bk_ty hE).2.1 n (fun j => .long (V.2 a j))) (fun q => by cases q) (by rw [arrV_size]; exact hin) (by rw [arrV_read _ _ (bk_in_lt hin)]; rfl) rfl rfl hdg kk
theorem bk_bald (C : bk_C G p s m args meth c cc own nL ret) (hH : bk_H G Y V s.heap H locs) {a n : Nat} {i : Int32} (hs : bk_sh Y a = (4, n)) (hin : vp_in i n) (hdg : decode cc pc = .ok (.baload, 1))
    (kk : W p l e R s m args below meth c H locs cells slots Q (F0 m (pc + 1) ls (.int (bk_rI V a i.toNatClampNeg) :: rest))) : W p l e R s m args below meth c H locs cells slots Q (F0 m pc ls (.int i :: .ref a :: rest)) := by
  obtain ⟨hx, hb, -, -, -, -, -, hE⟩ := C
  exact W.bald (v := .int (bk_rI V a i.toNatClampNeg)) hx hb (bk_arrI hH.1 hs (Or.inr (Or.inl rfl))) ((bk_ty hE).2.2.1 n (fun j => .int (V.1 a j))) (fun q => by cases q) (by rw [arrV_size]; exact hin) (by rw [arrV_read _ _ (bk_in_lt hin)]; rfl) rfl rfl hdg kk
theorem bk_zald (C : bk_C G p s m args meth c cc own nL ret) (hH : bk_H G Y V s.heap H locs) {a n : Nat} {i : Int32} (hs : bk_sh Y a = (5, n)) (hin : vp_in i n) (hdg : decode cc pc = .ok (.baload, 1))
    (kk : W p l e R s m args below meth c H locs cells slots Q (F0 m (pc + 1) ls (.int (bk_rI V a i.toNatClampNeg) :: rest))) : W p l e R s m args below meth c H locs cells slots Q (F0 m pc ls (.int i :: .ref a :: rest)) := by
  obtain ⟨hx, hb, -, -, -, -, -, hE⟩ := C
  exact W.zald (v := .int (bk_rI V a i.toNatClampNeg)) hx hb (bk_arrI hH.1 hs (Or.inr (Or.inr rfl))) ((bk_ty hE).2.2.2 n (fun j => .int (V.1 a j))) (fun q => by cases q) (by rw [arrV_size]; exact hin) (by rw [arrV_read _ _ (bk_in_lt hin)]; rfl) rfl rfl hdg kk
theorem bk_alen (C : bk_C G p s m args meth c cc own nL ret) (hH : bk_H G Y V s.heap H locs) {a t n : Nat} (hs : bk_sh Y a = (t, n)) (ht : t = 2 ∨ t = 3 ∨ t = 4 ∨ t = 5) (hdg : decode cc pc = .ok (.arraylength, 1))
    (kk : W p l e R s m args below meth c H locs cells slots Q (F0 m (pc + 1) ls (.int (nI n) :: rest))) : W p l e R s m args below meth c H locs cells slots Q (F0 m pc ls (.ref a :: rest)) := by
  obtain ⟨hx, hb, -, -, -, -, -, hE⟩ := C
  rcases ht with rfl | rfl | rfl | rfl
  · exact W.alen (n := nI n) hx hb (bk_arrI hH.1 hs (Or.inl rfl)) ((bk_ty hE).1 n (fun j => .int (V.1 a j))) (by rw [arrV_size]; rfl) rfl rfl hdg kk
  · exact W.alen (n := nI n) hx hb (bk_arrL hH.1 hs) ((bk_ty hE).2.1 n (fun j => .long (V.2 a j))) (by rw [arrV_size]; rfl) rfl rfl hdg kk
  · exact W.alen (n := nI n) hx hb (bk_arrI hH.1 hs (Or.inr (Or.inl rfl))) ((bk_ty hE).2.2.1 n (fun j => .int (V.1 a j))) (by rw [arrV_size]; rfl) rfl rfl hdg kk
  · exact W.alen (n := nI n) hx hb (bk_arrI hH.1 hs (Or.inr (Or.inr rfl))) ((bk_ty hE).2.2.2 n (fun j => .int (V.1 a j))) (by rw [arrV_size]; rfl) rfl rfl hdg kk
theorem bk_arr_wI {cl : ClassId} {a n k : Nat} {x : Int32} : (arrV cl n (fun j => .int (V.1 a j))).setSlot k (.int x) = arrV cl n (fun j => .int ((bk_wI V a k x).1 a j)) := by
  rw [arrV_store]
  congr 1
  funext j
  by_cases e : j = k <;> simp [updV, bk_wI, bk_up2, e]
theorem bk_arr_wL {cl : ClassId} {a n k : Nat} {x : Int64} : (arrV cl n (fun j => .long (V.2 a j))).setSlot k (.long x) = arrV cl n (fun j => .long ((bk_wL V a k x).2 a j)) := by
  rw [arrV_store]
  congr 1
  funext j
  by_cases e : j = k <;> simp [updV, bk_wL, bk_up2, e]
theorem bk_H.stI (hH : bk_H G Y V s.heap H locs) {a t n k : Nat} {x : Int32} (hs : bk_sh Y a = (t, n)) (h0 : t = 2 ∨ t = 4 ∨ t = 5) {H1 : Heap} (e1 : H1[a]? = some ((arrV (G.2.1 t) n (fun j => .int (V.1 a j))).setSlot k (.int x))) (z : H1.size = H.size) (oq : ∀ q : Nat, q ≠ a → H1[q]? = H[q]?) : bk_H G Y (bk_wI V a k x) s.heap H1 (locs ++ [⟨a, k⟩]) :=
  ⟨hH.1.upd (Y1 := Y) (V1 := bk_wI V a k x) rfl rfl (fun b hb => ⟨bk_up2_off _ _ hb, rfl, rfl⟩) (bk_cell_I hs h0 (by rw [e1, bk_arr_wI])) z oq, hH.2.1.put z oq (hH.1.2.2 a (by rw [show Y.1 a = (t, n) from hs]; rcases h0 with rfl | rfl | rfl <;> simp)).1, hH.2.2⟩
theorem bk_iast (C : bk_C G p s m args meth c cc own nL ret) (hH : bk_H G Y V s.heap H locs) {a n : Nat} {i x : Int32} (hs : bk_sh Y a = (2, n)) (hin : vp_in i n) (hdg : decode cc pc = .ok (.iastore, 1))
    (kk : ∀ (V1 : bk_Val) (H1 : Heap) (locs1 : List Loc), V1 = bk_wI V a i.toNatClampNeg x → bk_H G Y V1 s.heap H1 locs1 → W p l e R s m args below meth c H1 locs1 cells slots Q (F0 m (pc + 1) ls rest)) : W p l e R s m args below meth c H locs cells slots Q (F0 m pc ls (.int x :: .int i :: .ref a :: rest)) := by
  obtain ⟨hx, hb, -, -, -, -, -, hE⟩ := C
  exact W.iast hx hb (bk_arrI hH.1 hs (Or.inl rfl)) ((bk_ty hE).1 n (fun j => .int (V.1 a j))) (fun q => by cases q) (by rw [arrV_size]; exact hin) rfl rfl hdg fun H1 e z oq => kk _ H1 _ rfl (hH.stI hs (Or.inl rfl) e z oq)
theorem bk_bast (C : bk_C G p s m args meth c cc own nL ret) (hH : bk_H G Y V s.heap H locs) {a n : Nat} {i x : Int32} (hs : bk_sh Y a = (4, n)) (hin : vp_in i n) (hdg : decode cc pc = .ok (.bastore, 1))
    (kk : ∀ (V1 : bk_Val) (H1 : Heap) (locs1 : List Loc), V1 = bk_wI V a i.toNatClampNeg (vp_nar .byte x) → bk_H G Y V1 s.heap H1 locs1 → W p l e R s m args below meth c H1 locs1 cells slots Q (F0 m (pc + 1) ls rest)) : W p l e R s m args below meth c H locs cells slots Q (F0 m pc ls (.int x :: .int i :: .ref a :: rest)) := by
  obtain ⟨hx, hb, -, -, -, -, -, hE⟩ := C
  exact W.bast hx hb (bk_arrI hH.1 hs (Or.inr (Or.inl rfl))) ((bk_ty hE).2.2.1 n (fun j => .int (V.1 a j))) (fun q => by cases q) (by rw [arrV_size]; exact hin) rfl rfl hdg fun H1 e z oq => kk _ H1 _ rfl (hH.stI hs (Or.inr (Or.inl rfl)) e z oq)
theorem bk_zast (C : bk_C G p s m args meth c cc own nL ret) (hH : bk_H G Y V s.heap H locs) {a n : Nat} {i x : Int32} (hs : bk_sh Y a = (5, n)) (hin : vp_in i n) (h01 : x = 0 ∨ x = 1) (hdg : decode cc pc = .ok (.bastore, 1))
    (kk : ∀ (V1 : bk_Val) (H1 : Heap) (locs1 : List Loc), V1 = bk_wI V a i.toNatClampNeg x → bk_H G Y V1 s.heap H1 locs1 → W p l e R s m args below meth c H1 locs1 cells slots Q (F0 m (pc + 1) ls rest)) : W p l e R s m args below meth c H locs cells slots Q (F0 m pc ls (.int x :: .int i :: .ref a :: rest)) := by
  obtain ⟨hx, hb, -, -, -, -, -, hE⟩ := C
  exact W.zast hx hb (bk_arrI hH.1 hs (Or.inr (Or.inr rfl))) ((bk_ty hE).2.2.2 n (fun j => .int (V.1 a j))) (fun q => by cases q) (by rw [arrV_size]; exact hin) rfl rfl hdg fun H1 e z oq => kk _ H1 _ rfl (hH.stI hs (Or.inr (Or.inr rfl)) (by rw [(bk_z01 h01).1] at e; exact e) z oq)
theorem bk_last (C : bk_C G p s m args meth c cc own nL ret) (hH : bk_H G Y V s.heap H locs) {a n : Nat} {i : Int32} {x : Int64} (hs : bk_sh Y a = (3, n)) (hin : vp_in i n) (hdg : decode cc pc = .ok (.lastore, 1))
    (kk : ∀ (V1 : bk_Val) (H1 : Heap) (locs1 : List Loc), V1 = bk_wL V a i.toNatClampNeg x → bk_H G Y V1 s.heap H1 locs1 → W p l e R s m args below meth c H1 locs1 cells slots Q (F0 m (pc + 1) ls rest)) : W p l e R s m args below meth c H locs cells slots Q (F0 m pc ls (.long x :: .int i :: .ref a :: rest)) := by
  obtain ⟨hx, hb, -, -, -, -, -, hE⟩ := C
  refine W.last hx hb (bk_arrL hH.1 hs) ((bk_ty hE).2.1 n (fun j => .long (V.2 a j))) (fun q => by cases q) (by rw [arrV_size]; exact hin) rfl rfl hdg fun H1 e z oq => kk _ H1 _ rfl ?_
  exact ⟨hH.1.upd (Y1 := Y) (V1 := bk_wL V a i.toNatClampNeg x) rfl rfl (fun b hb => ⟨rfl, bk_up2_off _ _ hb, rfl⟩) (bk_cell_L hs (by rw [e, bk_arr_wL])) z oq, hH.2.1.put z oq (hH.1.2.2 a (by rw [show Y.1 a = (3, n) from hs]; simp)).1, hH.2.2⟩
/-! returns -/
def bk_Q (G : bk_G) (ro : Option Value) (Y : bk_Lay) (V : bk_Val) : Array Value → State → Outcome → State → Prop := fun _ st oc t => oc = .returned ro ∧ bk_P G Y V t.heap ∧ bk_E G t ∧ va_F (bk_A G) st t
theorem bk_fin (hE : bk_E G s) (hH : bk_H G Y V s.heap H locs) {t : State} (ht : t.heap = H) (hW : s.WarmedH t.vm) : bk_P G Y V t.heap ∧ bk_E G t ∧ va_F (bk_A G) s t :=
  ⟨by rw [ht]; exact hH.1, hE.go hW (fun a h1 h2 => by rw [ht]; exact hH.2.1.2.1 a h1 h2), hH.2.1.F ht⟩
theorem bk_iret (C : bk_C G p s m args meth c cc own nL (some .int)) (hH : bk_H G Y V s.heap H locs) {v : Int32} (hdg : decode cc pc = .ok (.ireturn, 1)) :
    W p l e R s m args below meth c H locs cells slots (MQ below (bk_Q G (some (.int v)) Y V) args s cells slots (bk_A G)) (F0 m pc ls [.int v]) := by
  obtain ⟨hx, hb, -, -, -, hr, hlocks, hE⟩ := C
  exact W.iret hx hb hr (fun t ht hW => ⟨rfl, bk_fin hE hH ht hW⟩) hH.2.1.2.2 hdg
theorem bk_zret (C : bk_C G p s m args meth c cc own nL (some .boolean)) (hH : bk_H G Y V s.heap H locs) {v : Int32} (h01 : v = 0 ∨ v = 1) (hdg : decode cc pc = .ok (.ireturn, 1)) :
    W p l e R s m args below meth c H locs cells slots (MQ below (bk_Q G (some (.int v)) Y V) args s cells slots (bk_A G)) (F0 m pc ls [.int v]) := by
  obtain ⟨hx, hb, -, -, -, hr, hlocks, hE⟩ := C
  exact W.zret hx hb hr (bk_z01 h01).1 (fun t ht hW => ⟨rfl, bk_fin hE hH ht hW⟩) hH.2.1.2.2 hdg
theorem bk_lret (C : bk_C G p s m args meth c cc own nL (some .long)) (hH : bk_H G Y V s.heap H locs) {v : Int64} (hdg : decode cc pc = .ok (.lreturn, 1)) :
    W p l e R s m args below meth c H locs cells slots (MQ below (bk_Q G (some (.long v)) Y V) args s cells slots (bk_A G)) (F0 m pc ls [.long v]) := by
  obtain ⟨hx, hb, -, -, -, hr, hlocks, hE⟩ := C
  exact W.lret hx hb hr (fun t ht hW => ⟨rfl, bk_fin hE hH ht hW⟩) hH.2.1.2.2 hdg
theorem bk_aret {rt : FieldType} (hrt : (∃ n, rt = .object n) ∨ ∃ t, rt = .array t) (C : bk_C G p s m args meth c cc own nL (some rt)) (hH : bk_H G Y V s.heap H locs) {v : Nat} (hdg : decode cc pc = .ok (.areturn, 1)) :
    W p l e R s m args below meth c H locs cells slots (MQ below (bk_Q G (some (.ref v)) Y V) args s cells slots (bk_A G)) (F0 m pc ls [.ref v]) := by
  obtain ⟨hx, hb, -, -, -, hr, hlocks, hE⟩ := C
  exact W.aret hx hb hr hrt (Or.inr ⟨v, rfl⟩) (fun t ht hW => ⟨rfl, bk_fin hE hH ht hW⟩) hH.2.1.2.2 hdg
theorem bk_vret (C : bk_C G p s m args meth c cc own nL none) (hH : bk_H G Y V s.heap H locs) (hdg : decode cc pc = .ok (.return_, 1)) :
    W p l e R s m args below meth c H locs cells slots (MQ below (bk_Q G none Y V) args s cells slots (bk_A G)) (F0 m pc ls []) := by
  obtain ⟨hx, hb, -, -, -, hr, hlocks, hE⟩ := C
  exact W.vret hx hb hr (fun t ht hW => ⟨rfl, bk_fin hE hH ht hW⟩) hH.2.1.2.2 hdg
end
