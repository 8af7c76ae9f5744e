/-! what holds at the law's entry -/
def bk_tm (i : Nat) : Term := match bk_strs[i]? with
  | some q => .string q.1 q.2.1
  | none => .string "" 0
def bk_gl : List Cond := flatC (Jvm.Cond.and given_1 narrow_1)
set_option maxRecDepth 100000 in
theorem bk_g1 : ∀ i, i < 39 → Cond.exactly (bk_tm i) "java/lang/String" ∈ bk_gl := by decide +kernel
set_option maxRecDepth 100000 in
theorem bk_g2 : ∀ i, i < 39 → Cond.eq (.field (bk_tm i) "java/lang/String" "coder" "B") (.int 0) ∈ bk_gl := by decide +kernel
set_option maxRecDepth 100000 in
theorem bk_g3 : ∀ i, i < 39 → Cond.arrayOf (.field (bk_tm i) "java/lang/String" "value" "[B") .byte ∈ bk_gl := by decide +kernel
set_option maxRecDepth 100000 in
theorem bk_g4 : ∀ i, i < 39 → Cond.eq (.length (.field (bk_tm i) "java/lang/String" "value" "[B")) (.int (Int32.ofNat (bk_len.getD i 0))) ∈ bk_gl := by decide +kernel
set_option maxRecDepth 100000 in
theorem bk_g5 : ∀ i, i < 39 → ∀ j, j < bk_len.getD i 0 → Cond.eq (.elem (.field (bk_tm i) "java/lang/String" "value" "[B") (.int (Int32.ofNat j))) (.int ((bk_byt.getD i []).getD j 0)) ∈ bk_gl := by decide +kernel
set_option maxRecDepth 100000 in
theorem bk_g6 : ∀ q ∈ bk_strs, Cond.stringRef q.1 q.2.1 q.2.2 ∈ tables_1 := by decide +kernel
theorem bk_g7 : ∀ i, i < 39 → bk_len.getD i 0 < 2 ^ 31 := by decide +kernel
theorem bk_g8 : bk_strs.length = 39 := by decide +kernel
set_option maxRecDepth 100000 in
theorem bk_g9 : ∀ w ∈ bk_nest, w ∈ tables_1 := by decide +kernel
theorem bk_g10 : ∀ w ∈ bk_nest, w.onTables = true := by decide +kernel
theorem bk_strof {args : Array Value} {s : State} {tm : Term} {n : Nat} {byt : List Int32} {A : Nat → Prop} (hN : n < 2 ^ 31) (hex : (Cond.exactly tm "java/lang/String").before args s = true) (hco : (Cond.eq (.field tm "java/lang/String" "coder" "B") (.int 0)).before args s = true) (har : (Cond.arrayOf (.field tm "java/lang/String" "value" "[B") .byte).before args s = true)
    (hle : (Cond.eq (.length (.field tm "java/lang/String" "value" "[B")) (.int (Int32.ofNat n))).before args s = true) (hel : ∀ j : Nat, j < n → (Cond.eq (.elem (.field tm "java/lang/String" "value" "[B") (.int (Int32.ofNat j))) (.int (byt.getD j 0))).before args s = true) (hA : ∀ a : Nat, a < s.heap.size → ¬ A a) :
    ∃ q : Nat × Nat, tm.eval args s none [] s = some (.ref q.1) ∧ va_O "java/lang/String" q.1 A s s.heap ∧ va_OF "java/lang/String" "coder" "B" (.int 0) q.1 A s s.heap ∧ va_OF "java/lang/String" "value" "[B" (.ref q.2) q.1 A s s.heap ∧ va_T .byte q.2 n (fun j => .int (byt.getD j 0)) A s s.heap := by
  obtain ⟨a, c, cA, kA, q1, -⟩ := Cond.exactly_spec (args := args) (first := s) (o := none) (s := s) (idx := []) (t := tm) (cls := "java/lang/String") hex
  obtain ⟨t, ht, hT⟩ := va_Tof (f := fun j => .int (byt.getD j 0)) (A := A) hN har (va_eqt hle) (fun j hj => va_eqt (hel j hj)) hA
  exact ⟨(a, t), q1, va_Oof hex q1 hA, vk_OFof q1 (va_eqt hco) hA, vk_OFof q1 ht hA, hT⟩
theorem bk_arrof {args : Array Value} {s : State} {ty : FieldType} (h : (Cond.arrayClass ty).before args s = true) : ∃ cA, ArrOfT s cA ty ∧ s.vm.findClass ("[" ++ ty.toString) = some cA := by
  obtain ⟨c, k, comp, h1, h2, h3⟩ := Cond.arrayClass_spec (args := args) (first := s) (o := none) (s := s) (idx := []) h
  exact ⟨c, fun n z => ⟨fun k h => by cases h, k, h2, comp, h3⟩, h1⟩
theorem bk_kn {args : Array Value} {s : State} (hG : ∀ w ∈ bk_GW, w.before args s = true) {ci : Nat} {C0 : String} {T : u_T} {N : Nat} {ty : Nat → FieldType} (hok : bk_ok ci C0 T N ty) (hi : Cond.instantiable C0 N ∈ bk_GW) : ∃ q : ClassId × (Nat → Nat), ∀ r : vw_C, vwCl[ci]? = some r → u_Kn s r.1 r.2.1 r.2.2 q.1 q.2 := by
  obtain ⟨cC, iS, h⟩ := u_known hG hok.2.1 (hG _ hi)
  refine ⟨(cC, iS), fun r hr => ?_⟩
  have e := hok.1.symm.trans hr
  cases e
  exact h
set_option maxRecDepth 100000 in
theorem bk_gs1 : Cond.arrayOf (.static "BucketTube" "SETTING_LEAST" "[I") .int ∈ bk_gl ∧ Cond.eq (.length (.static "BucketTube" "SETTING_LEAST" "[I")) (.int (Int32.ofNat 8)) ∈ bk_gl ∧ ∀ j, j < 8 → Cond.eq (.elem (.static "BucketTube" "SETTING_LEAST" "[I") (.int (Int32.ofNat j))) (.int (bk_least.getD j 0)) ∈ bk_gl := by decide +kernel
set_option maxRecDepth 100000 in
theorem bk_gs2 : Cond.arrayOf (.static "BucketTube" "SETTING_MOST" "[I") .int ∈ bk_gl ∧ Cond.eq (.length (.static "BucketTube" "SETTING_MOST" "[I")) (.int (Int32.ofNat 8)) ∈ bk_gl ∧ ∀ j, j < 8 → Cond.eq (.elem (.static "BucketTube" "SETTING_MOST" "[I") (.int (Int32.ofNat j))) (.int (bk_most.getD j 0)) ∈ bk_gl := by decide +kernel
set_option maxRecDepth 100000 in
theorem bk_gs3 : Cond.eq (.static "java/lang/String" "COMPACT_STRINGS" "Z") (.int 1) ∈ bk_gl ∧ Cond.isRef (.static "jdk/internal/util/Preconditions" "SIOOBE_FORMATTER" "Ljava/util/function/BiFunction;") ∈ bk_gl ∧ Cond.isRef (.static Bundle.tN "UNASSIGNED_STACK" Bundle.steD) ∈ bk_gl ∧ Cond.isRef (.static Bundle.tN "SUPPRESSED_SENTINEL" Bundle.listD) ∈ bk_gl ∧ Cond.not (.castable "java/lang/IllegalArgumentException" "java/util/NoSuchElementException") ∈ bk_gl := by decide +kernel
set_option maxRecDepth 100000 in
theorem bk_gs4 : ∀ w ∈ ([.laysStatic "BucketTube" "SETTING_LEAST" "[I", .laysStatic "BucketTube" "SETTING_MOST" "[I", .laysStatic "java/lang/String" "COMPACT_STRINGS" "Z", .laysStatic "jdk/internal/util/Preconditions" "SIOOBE_FORMATTER" "Ljava/util/function/BiFunction;", .laysStatic Bundle.tN "UNASSIGNED_STACK" Bundle.steD, .laysStatic Bundle.tN "SUPPRESSED_SENTINEL" Bundle.listD,
    .initialized "BucketTube", .initialized "java/lang/String", .initialized "jdk/internal/util/Preconditions", .initialized Bundle.tN] : List Cond), w ∈ tables_1 := by decide +kernel
set_option maxHeartbeats 4000000 in
theorem bk_start {args : Array Value} {s : State} (hts : ∀ w ∈ lw_tbl, w.before args s = true) (hgv : (Jvm.Cond.and given_1 narrow_1).before args s = true) : ∃ G : bk_G, G.2.2.1 = s.heap.size ∧ bk_E G s := by
  have hg : ∀ w ∈ bk_gl, w.before args s = true := flat_of_before _ hgv
  have hT : ∀ w ∈ tables_1, w.before args s = true := fun w hw => hts w (List.mem_append_right _ hw)
  have hG : ∀ w ∈ bk_GW, w.before args s = true := fun w hw => hts w (List.mem_filter.mp hw).1
  have hA : ∀ a : Nat, a < s.heap.size → ¬ (fun q : Nat => s.heap.size ≤ q) a := fun a h h2 => absurd h (Nat.not_lt.mpr h2)
  have hS : ∀ i : Nat, ∃ q : Nat × Nat, i < 39 → (bk_tm i).eval args s none [] s = some (.ref q.1) ∧ va_O "java/lang/String" q.1 (fun q : Nat => s.heap.size ≤ q) s s.heap ∧ va_OF "java/lang/String" "coder" "B" (.int 0) q.1 (fun q : Nat => s.heap.size ≤ q) s s.heap ∧ va_OF "java/lang/String" "value" "[B" (.ref q.2) q.1 (fun q : Nat => s.heap.size ≤ q) s s.heap ∧ va_T .byte q.2 (bk_len.getD i 0) (fun j => .int ((bk_byt.getD i []).getD j 0)) (fun q : Nat => s.heap.size ≤ q) s s.heap := by
    intro i
    by_cases hi : i < 39
    · obtain ⟨q, h⟩ := bk_strof (tm := bk_tm i) (n := bk_len.getD i 0) (byt := bk_byt.getD i []) (bk_g7 i hi) (hg _ (bk_g1 i hi)) (hg _ (bk_g2 i hi)) (hg _ (bk_g3 i hi)) (hg _ (bk_g4 i hi)) (fun j hj => hg _ (bk_g5 i hi j hj)) hA
      exact ⟨q, fun _ => h⟩
    · exact ⟨(0, 0), fun h => absurd h hi⟩
  have hK : ∀ c : Nat, ∃ q : ClassId × (Nat → Nat), ∀ r : vw_C, vwCl[c]? = some r → u_Kn s r.1 r.2.1 r.2.2 q.1 q.2 := by
    intro c
    match c with
    | 0 => exact bk_kn hG ok_0 ib_RX1
    | 1 => exact bk_kn hG ok_1 ib_RX2
    | 2 => exact bk_kn hG ok_2 ib_RX3
    | 3 => exact bk_kn hG ok_3 ib_RX4
    | 4 => exact bk_kn hG ok_4 ib_RX5
    | 5 => exact bk_kn hG ok_5 ib_RX6
    | 6 => exact bk_kn hG ok_6 ib_RX7
    | 7 => exact bk_kn hG ok_7 ib_RX8
    | 8 => exact bk_kn hG ok_8 ib_RX9
    | 9 => exact bk_kn hG ok_9 ib_RX10
    | 10 => exact bk_kn hG ok_10 ib_RX11
    | 11 => exact bk_kn hG ok_11 ib_RX12
    | n + 12 => exact ⟨(0, fun _ => 0), fun r hr => by cases hr⟩
  obtain ⟨ad, had⟩ := Classical.axiomOfChoice hS
  obtain ⟨dk, hdk⟩ := Classical.axiomOfChoice hK
  obtain ⟨c2, p2, r2⟩ := bk_arrof (hG _ ac_2)
  obtain ⟨c3, p3, r3⟩ := bk_arrof (hG _ ac_3)
  obtain ⟨c4, p4, r4⟩ := bk_arrof (hG _ ac_4)
  obtain ⟨c5, p5, r5⟩ := bk_arrof (hG _ ac_5)
  obtain ⟨t0, e0, T0⟩ := va_Tof (f := fun j => .int (bk_least.getD j 0)) (A := fun q : Nat => s.heap.size ≤ q) (by decide) (hg _ bk_gs1.1) (va_eqt (hg _ bk_gs1.2.1)) (fun j hj => va_eqt (hg _ (bk_gs1.2.2 j hj))) hA
  obtain ⟨t1, e1, T1⟩ := va_Tof (f := fun j => .int (bk_most.getD j 0)) (A := fun q : Nat => s.heap.size ≤ q) (by decide) (hg _ bk_gs2.1) (va_eqt (hg _ bk_gs2.2.1)) (fun j hj => va_eqt (hg _ (bk_gs2.2.2 j hj))) hA
  have w : ∀ k (x : Cond), ([.laysStatic "BucketTube" "SETTING_LEAST" "[I", .laysStatic "BucketTube" "SETTING_MOST" "[I", .laysStatic "java/lang/String" "COMPACT_STRINGS" "Z", .laysStatic "jdk/internal/util/Preconditions" "SIOOBE_FORMATTER" "Ljava/util/function/BiFunction;", .laysStatic Bundle.tN "UNASSIGNED_STACK" Bundle.steD, .laysStatic Bundle.tN "SUPPRESSED_SENTINEL" Bundle.listD, .initialized "BucketTube", .initialized "java/lang/String", .initialized "jdk/internal/util/Preconditions", .initialized Bundle.tN] : List Cond)[k]? = some x → x.before args s = true := fun k x hx => hT _ (bk_gs4 x (List.mem_of_getElem? hx))
  refine ⟨((fun c => (dk c).1, fun c => (dk c).2), (fun t => if t = 2 then c2 else if t = 3 then c3 else if t = 4 then c4 else c5), s.heap.size, fun i => (ad i).1, fun i => (ad i).2, fun k => if k = 0 then t0 else t1), rfl, ⟨fun c q hq => hdk c q hq, fun k q hq => ?_⟩, fun w hw => va_Nw.of (bk_g10 w hw) (hT w (bk_g9 w hw)), fun i q hq => ?_, ⟨va_Zof (w 0 _ rfl) (w 6 _ rfl) e0 hA, T0, va_Zof (w 1 _ rfl) (w 6 _ rfl) e1 hA, T1, va_Zof (w 2 _ rfl) (w 7 _ rfl) (va_eqt (hg _ bk_gs3.1)) hA, va_Zqof (w 3 _ rfl) (w 8 _ rfl) (hg _ bk_gs3.2.1) hA, vx_Zqof (w 4 _ rfl) (w 9 _ rfl) (hg _ bk_gs3.2.2.1) hA, vx_Zqof (w 5 _ rfl) (w 9 _ rfl) (hg _ bk_gs3.2.2.2.1) hA⟩, va_Nc.of (hg _ bk_gs3.2.2.2.2)⟩
  · match k with
    | 0 => cases hq; exact ⟨p2, r2⟩
    | 1 => cases hq; exact ⟨p3, r3⟩
    | 2 => cases hq; exact ⟨p4, r4⟩
    | 3 => cases hq; exact ⟨p5, r5⟩
    | n + 4 => cases hq
  · have hi : i < 39 := by rw [← bk_g8]; exact (List.getElem?_eq_some_iff.mp hq).1
    obtain ⟨h1, h2, h3, h4, h5⟩ := had i hi
    have et : bk_tm i = .string q.1 q.2.1 := by unfold bk_tm; rw [hq]
    rw [et] at h1
    exact ⟨vk_R.of (hT _ (bk_g6 q (List.mem_of_getElem? hq))) h1, h2, h3, h4, h5⟩
