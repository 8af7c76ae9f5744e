/-! what holds at the law's entry -/
def bk_tm (i : Nat) : Term := match bk_strs[i]? with
  | some q => .string q.1 q.2.1
  | none => .string "" 0
def bk_gl : List Cond := flatC (Jvm.Cond.and given_1 narrow_1)
def bk_p1 : List Nat := [59, 100, 108, 116, 124, 133, 145, 153, 162, 170, 177, 185, 193, 203, 211, 222, 230, 238, 246, 253, 259, 268, 276, 285, 293, 302, 309, 317, 326, 335, 343, 352, 361, 368, 377, 385, 393, 410, 442]
def bk_p2 : List Nat := [60, 101, 109, 117, 125, 134, 146, 154, 163, 171, 178, 186, 194, 204, 212, 223, 231, 239, 247, 254, 260, 269, 277, 286, 294, 303, 310, 318, 327, 336, 344, 353, 362, 369, 378, 386, 394, 411, 443]
def bk_p3 : List Nat := [61, 102, 110, 118, 126, 135, 147, 155, 164, 172, 179, 187, 195, 205, 213, 224, 232, 240, 248, 255, 261, 270, 278, 287, 295, 304, 311, 319, 328, 337, 345, 354, 363, 370, 379, 387, 395, 412, 444]
def bk_p4 : List Nat := [62, 103, 111, 119, 127, 136, 148, 156, 165, 173, 180, 188, 196, 206, 214, 225, 233, 241, 249, 256, 262, 271, 279, 288, 296, 305, 312, 320, 329, 338, 346, 355, 364, 371, 380, 388, 396, 413, 445]
def bk_p5 : List (List Nat) := [[63, 64, 65, 66, 67, 68, 69, 70, 71, 72, 73, 74, 75, 76, 77, 78, 79, 80, 81, 82, 83, 84, 85, 86, 87, 88, 89, 90, 91, 92, 93, 94, 95, 96, 97, 98, 99], [104, 105, 106, 107], [112, 113, 114, 115], [120, 121, 122, 123], [128, 129, 130, 131, 132], [137, 138, 139, 140, 141, 142, 143, 144], [149, 150, 151, 152], [157, 158, 159, 160, 161], [166, 167, 168, 169], [174, 175, 176], [181, 182, 183, 184], [189, 190, 191, 192], [197, 198, 199, 200, 201, 202], [207, 208, 209, 210], [215, 216, 217, 218, 219, 220, 221], [226, 227, 228, 229], [234, 235, 236, 237], [242, 243, 244, 245], [250, 251, 252], [257, 258], [263, 264, 265, 266, 267], [272, 273, 274, 275], [280, 281, 282, 283, 284], [289, 290, 291, 292], [297, 298, 299, 300, 301], [306, 307, 308], [313, 314, 315, 316], [321, 322, 323, 324, 325], [330, 331, 332, 333, 334], [339, 340, 341, 342], [347, 348, 349, 350, 351], [356, 357, 358, 359, 360], [365, 366, 367], [372, 373, 374, 375, 376], [381, 382, 383, 384], [389, 390, 391, 392], [397, 398, 399, 400, 401, 402, 403, 404, 405, 406, 407, 408, 409], [414, 415, 416, 417, 418, 419, 420, 421, 422, 423, 424, 425, 426, 427, 428, 429, 430, 431, 432, 433, 434, 435, 436, 437, 438, 439, 440, 441], [446, 447, 448, 449, 450, 451, 452, 453, 454, 455, 456, 457, 458, 459, 460, 461, 462, 463, 464, 465, 466, 467, 468]]
def bk_p6 : List Nat := [618, 662, 758, 759, 760, 761, 762, 763, 768, 785, 806, 807, 808, 809, 814, 815, 816, 817, 827, 828, 829, 830, 839, 840, 841, 842, 847, 852, 861, 862, 863, 864, 865, 874, 879, 880, 908, 929, 930]
def bk_p9 : List Nat := [36, 52, 63, 89, 120, 141, 167, 262, 496, 580, 582, 584, 586, 721, 723, 741, 901, 982, 1210]
def bk_p_SETTING_LEAST : List Nat := [23, 24, 25, 26, 27, 28, 29, 30, 31, 32]
def bk_p_SETTING_MOST : List Nat := [12, 13, 14, 15, 16, 17, 18, 19, 20, 21]
def bk_p_one : List Nat := [6, 7, 4, 5, 58]
def bk_p_tab : List Nat := [724, 722, 676, 692, 605, 607, 1, 19, 21, 15]
theorem bk_atG {w : Cond} {i : Nat} (h : bk_gl[i]? = some w) : w ∈ bk_gl := List.mem_of_getElem? h
theorem bk_atT {w : Cond} {i : Nat} (h : tables_1[i]? = some w) : w ∈ tables_1 := List.mem_of_getElem? h
set_option maxRecDepth 100000 in
theorem bk_h1 : ∀ i, i < 39 → bk_gl[bk_p1.getD i 0]? = some (Cond.exactly (bk_tm i) "java/lang/String") := by decide +kernel
theorem bk_g1 : ∀ i, i < 39 → Cond.exactly (bk_tm i) "java/lang/String" ∈ bk_gl := fun i h => bk_atG (bk_h1 i h)
set_option maxRecDepth 100000 in
theorem bk_h2 : ∀ i, i < 39 → bk_gl[bk_p2.getD i 0]? = some (Cond.eq (.field (bk_tm i) "java/lang/String" "coder" "B") (.int 0)) := by decide +kernel
theorem bk_g2 : ∀ i, i < 39 → Cond.eq (.field (bk_tm i) "java/lang/String" "coder" "B") (.int 0) ∈ bk_gl := fun i h => bk_atG (bk_h2 i h)
set_option maxRecDepth 100000 in
theorem bk_h3 : ∀ i, i < 39 → bk_gl[bk_p3.getD i 0]? = some (Cond.arrayOf (.field (bk_tm i) "java/lang/String" "value" "[B") .byte) := by decide +kernel
theorem bk_g3 : ∀ i, i < 39 → Cond.arrayOf (.field (bk_tm i) "java/lang/String" "value" "[B") .byte ∈ bk_gl := fun i h => bk_atG (bk_h3 i h)
set_option maxRecDepth 100000 in
theorem bk_h4 : ∀ i, i < 39 → bk_gl[bk_p4.getD i 0]? = some (Cond.eq (.length (.field (bk_tm i) "java/lang/String" "value" "[B")) (.int (Int32.ofNat (bk_len.getD i 0)))) := by decide +kernel
theorem bk_g4 : ∀ i, i < 39 → Cond.eq (.length (.field (bk_tm i) "java/lang/String" "value" "[B")) (.int (Int32.ofNat (bk_len.getD i 0))) ∈ bk_gl := fun i h => bk_atG (bk_h4 i h)
set_option maxRecDepth 100000 in
theorem bk_h5 : ∀ i, i < 39 → ∀ j, j < bk_len.getD i 0 → bk_gl[(bk_p5.getD i []).getD j 0]? = some (Cond.eq (.elem (.field (bk_tm i) "java/lang/String" "value" "[B") (.int (Int32.ofNat j))) (.int ((bk_byt.getD i []).getD j 0))) := by decide +kernel
theorem bk_g5 : ∀ i, i < 39 → ∀ j, j < bk_len.getD i 0 → Cond.eq (.elem (.field (bk_tm i) "java/lang/String" "value" "[B") (.int (Int32.ofNat j))) (.int ((bk_byt.getD i []).getD j 0)) ∈ bk_gl := fun i h j hj => bk_atG (bk_h5 i h j hj)
set_option maxRecDepth 100000 in
theorem bk_h6 : ∀ i, i < 39 → tables_1[bk_p6.getD i 0]? = (bk_strs[i]?).map (fun q => Cond.stringRef q.1 q.2.1 q.2.2) := by decide +kernel
theorem bk_g8 : bk_strs.length = 39 := by decide +kernel
theorem bk_g6 {i : Nat} {q : String × Nat × String} (hq : bk_strs[i]? = some q) : Cond.stringRef q.1 q.2.1 q.2.2 ∈ tables_1 := by
  have hi : i < 39 := by rw [← bk_g8]; exact (List.getElem?_eq_some_iff.mp hq).1
  have h := bk_h6 i hi
  rw [hq] at h
  exact bk_atT h
theorem bk_g7 : ∀ i, i < 39 → bk_len.getD i 0 < 2 ^ 31 := by decide +kernel
set_option maxRecDepth 100000 in
theorem bk_h9 : ∀ i, i < 19 → tables_1[bk_p9.getD i 0]? = bk_nest[i]? := by decide +kernel
theorem bk_h9l : bk_nest.length = 19 := by decide +kernel
theorem bk_g9 : ∀ w ∈ bk_nest, w ∈ tables_1 := by
  intro w hw
  obtain ⟨i, hi, e⟩ := List.getElem_of_mem hw
  have h := bk_h9 i (by rw [← bk_h9l]; exact hi)
  rw [List.getElem?_eq_getElem hi, e] at h
  exact bk_atT h
theorem bk_g10 : ∀ w ∈ bk_nest, w.onTables = true := by decide +kernel
theorem bk_strof {args : Array Value} {s : State} {tm : Term} {n : Nat} {byt : List Int32} {A : Nat → Prop} (hN : n < 2 ^ 31) (hex : (Cond.exactly tm "java/lang/String").before args s = true) (hco : (Cond.eq (.field tm "java/lang/String" "coder" "B") (.int 0)).before args s = true) (har : (Cond.arrayOf (.field tm "java/lang/String" "value" "[B") .byte).before args s = true)
    (hle : (Cond.eq (.length (.field tm "java/lang/String" "value" "[B")) (.int (Int32.ofNat n))).before args s = true) (hel : ∀ j : Nat, j < n → (Cond.eq (.elem (.field tm "java/lang/String" "value" "[B") (.int (Int32.ofNat j))) (.int (byt.getD j 0))).before args s = true) (hA : ∀ a : Nat, a < s.heap.size → ¬ A a) :
    ∃ q : Nat × Nat, tm.eval args s none [] s = some (.ref q.1) ∧ va_O "java/lang/String" q.1 A s s.heap ∧ va_OF "java/lang/String" "coder" "B" (.int 0) q.1 A s s.heap ∧ va_OF "java/lang/String" "value" "[B" (.ref q.2) q.1 A s s.heap ∧ va_T .byte q.2 n (fun j => .int (byt.getD j 0)) A s s.heap := by
  obtain ⟨a, c, cA, kA, q1, -⟩ := Cond.exactly_spec (args := args) (first := s) (o := none) (s := s) (idx := []) (t := tm) (cls := "java/lang/String") hex
  obtain ⟨t, ht, hT⟩ := va_Tof (f := fun j => .int (byt.getD j 0)) (A := A) hN har (va_eqt hle) (fun j hj => va_eqt (hel j hj)) hA
  exact ⟨(a, t), q1, va_Oof hex q1 hA, vk_OFof q1 (va_eqt hco) hA, vk_OFof q1 ht hA, hT⟩
theorem bk_arrof {args : Array Value} {s : State} {ty : FieldType} (h : (Cond.arrayClass ty).before args s = true) : ∃ cA, ArrOfT s cA ty ∧ s.vm.findClass ("[" ++ ty.toString) = some cA := by
  obtain ⟨c, k, comp, h1, h2, h3⟩ := Cond.arrayClass_spec (args := args) (first := s) (o := none) (s := s) (idx := []) h
  exact ⟨c, fun n z => ⟨(fun k h => by cases h), k, h2, comp, h3⟩, h1⟩
theorem bk_kn {args : Array Value} {s : State} (hG : ∀ w ∈ bk_GW, w.before args s = true) {ci : Nat} {C0 : String} {T : u_T} {N : Nat} {ty : Nat → FieldType} (hok : bk_ok ci C0 T N ty) (hi : Cond.instantiable C0 N ∈ bk_GW) : ∃ q : ClassId × (Nat → Nat), ∀ r : vw_C, vwCl[ci]? = some r → u_Kn s r.1 r.2.1 r.2.2 q.1 q.2 := by
  obtain ⟨cC, iS, h⟩ := u_known hG hok.2.1 (hG _ hi)
  refine ⟨(cC, iS), fun r hr => ?_⟩
  have e := hok.1.symm.trans hr
  cases e
  exact h
set_option maxRecDepth 100000 in
theorem bk_hs1 : bk_gl[(bk_p_SETTING_LEAST).getD 0 0]? = some (Cond.arrayOf (.static "BucketTube" "SETTING_LEAST" "[I") .int) ∧ bk_gl[(bk_p_SETTING_LEAST).getD 1 0]? = some (Cond.eq (.length (.static "BucketTube" "SETTING_LEAST" "[I")) (.int (Int32.ofNat 8))) ∧ ∀ j, j < 8 → bk_gl[(bk_p_SETTING_LEAST).getD (j + 2) 0]? = some (Cond.eq (.elem (.static "BucketTube" "SETTING_LEAST" "[I") (.int (Int32.ofNat j))) (.int (bk_least.getD j 0))) := by decide +kernel
theorem bk_gs1 : Cond.arrayOf (.static "BucketTube" "SETTING_LEAST" "[I") .int ∈ bk_gl ∧ Cond.eq (.length (.static "BucketTube" "SETTING_LEAST" "[I")) (.int (Int32.ofNat 8)) ∈ bk_gl ∧ ∀ j, j < 8 → Cond.eq (.elem (.static "BucketTube" "SETTING_LEAST" "[I") (.int (Int32.ofNat j))) (.int (bk_least.getD j 0)) ∈ bk_gl := ⟨bk_atG bk_hs1.1, bk_atG bk_hs1.2.1, fun j hj => bk_atG (bk_hs1.2.2 j hj)⟩
set_option maxRecDepth 100000 in
theorem bk_hs2 : bk_gl[(bk_p_SETTING_MOST).getD 0 0]? = some (Cond.arrayOf (.static "BucketTube" "SETTING_MOST" "[I") .int) ∧ bk_gl[(bk_p_SETTING_MOST).getD 1 0]? = some (Cond.eq (.length (.static "BucketTube" "SETTING_MOST" "[I")) (.int (Int32.ofNat 8))) ∧ ∀ j, j < 8 → bk_gl[(bk_p_SETTING_MOST).getD (j + 2) 0]? = some (Cond.eq (.elem (.static "BucketTube" "SETTING_MOST" "[I") (.int (Int32.ofNat j))) (.int (bk_most.getD j 0))) := by decide +kernel
theorem bk_gs2 : Cond.arrayOf (.static "BucketTube" "SETTING_MOST" "[I") .int ∈ bk_gl ∧ Cond.eq (.length (.static "BucketTube" "SETTING_MOST" "[I")) (.int (Int32.ofNat 8)) ∈ bk_gl ∧ ∀ j, j < 8 → Cond.eq (.elem (.static "BucketTube" "SETTING_MOST" "[I") (.int (Int32.ofNat j))) (.int (bk_most.getD j 0)) ∈ bk_gl := ⟨bk_atG bk_hs2.1, bk_atG bk_hs2.2.1, fun j hj => bk_atG (bk_hs2.2.2 j hj)⟩
set_option maxRecDepth 100000 in
theorem bk_hs3 : bk_gl[bk_p_one.getD 0 0]? = some (Cond.eq (.static "java/lang/String" "COMPACT_STRINGS" "Z") (.int 1)) ∧ bk_gl[bk_p_one.getD 1 0]? = some (Cond.isRef (.static "jdk/internal/util/Preconditions" "SIOOBE_FORMATTER" "Ljava/util/function/BiFunction;")) ∧ bk_gl[bk_p_one.getD 2 0]? = some (Cond.isRef (.static Bundle.tN "UNASSIGNED_STACK" Bundle.steD)) ∧ bk_gl[bk_p_one.getD 3 0]? = some (Cond.isRef (.static Bundle.tN "SUPPRESSED_SENTINEL" Bundle.listD)) ∧ bk_gl[bk_p_one.getD 4 0]? = some (Cond.not (.castable "java/lang/IllegalArgumentException" "java/util/NoSuchElementException")) := by decide +kernel
theorem bk_gs3 : Cond.eq (.static "java/lang/String" "COMPACT_STRINGS" "Z") (.int 1) ∈ bk_gl ∧ Cond.isRef (.static "jdk/internal/util/Preconditions" "SIOOBE_FORMATTER" "Ljava/util/function/BiFunction;") ∈ bk_gl ∧ Cond.isRef (.static Bundle.tN "UNASSIGNED_STACK" Bundle.steD) ∈ bk_gl ∧ Cond.isRef (.static Bundle.tN "SUPPRESSED_SENTINEL" Bundle.listD) ∈ bk_gl ∧ Cond.not (.castable "java/lang/IllegalArgumentException" "java/util/NoSuchElementException") ∈ bk_gl := ⟨bk_atG bk_hs3.1, bk_atG bk_hs3.2.1, bk_atG bk_hs3.2.2.1, bk_atG bk_hs3.2.2.2.1, bk_atG bk_hs3.2.2.2.2⟩
def bk_tabs : List Cond := ([.laysStatic "BucketTube" "SETTING_LEAST" "[I", .laysStatic "BucketTube" "SETTING_MOST" "[I", .laysStatic "java/lang/String" "COMPACT_STRINGS" "Z", .laysStatic "jdk/internal/util/Preconditions" "SIOOBE_FORMATTER" "Ljava/util/function/BiFunction;", .laysStatic Bundle.tN "UNASSIGNED_STACK" Bundle.steD, .laysStatic Bundle.tN "SUPPRESSED_SENTINEL" Bundle.listD, .initialized "BucketTube", .initialized "java/lang/String", .initialized "jdk/internal/util/Preconditions", .initialized Bundle.tN] : List Cond)
set_option maxRecDepth 100000 in
theorem bk_hs4 : ∀ i, i < 10 → tables_1[bk_p_tab.getD i 0]? = bk_tabs[i]? := by decide +kernel
theorem bk_gs4 {k : Nat} {x : Cond} (h : bk_tabs[k]? = some x) : x ∈ tables_1 := by
  have hk : k < 10 := (List.getElem?_eq_some_iff.mp h).1
  exact bk_atT ((bk_hs4 k hk).trans h)
set_option maxHeartbeats 4000000 in
theorem bk_start {args : Array Value} {s : State} (hts : ∀ w ∈ lw_tbl, w.before args s = true) (hgv : (Jvm.Cond.and given_1 narrow_1).before args s = true) : ∃ G : bk_G, G.2.2.1 = s.heap.size ∧ bk_E G s := by
  have hg : ∀ w ∈ bk_gl, w.before args s = true := flat_of_before _ hgv
  have hT : ∀ w ∈ tables_1, w.before args s = true := fun w hw => hts w (List.mem_append_right _ hw)
  have hG : ∀ w ∈ bk_GW, w.before args s = true := fun w hw => hts w (List.mem_filter.mp hw).1
  have hA : ∀ a : Nat, a < s.heap.size → ¬ (fun q : Nat => s.heap.size ≤ q) a := fun a h h2 => absurd h (Nat.not_lt.mpr h2)
  have hS : ∀ i : Nat, ∃ q : Nat × Nat, i < 39 → (bk_tm i).eval args s none [] s = some (.ref q.1) ∧ va_O "java/lang/String" q.1 (fun q : Nat => s.heap.size ≤ q) s s.heap ∧ va_OF "java/lang/String" "coder" "B" (.int 0) q.1 (fun q : Nat => s.heap.size ≤ q) s s.heap ∧ va_OF "java/lang/String" "value" "[B" (.ref q.2) q.1 (fun q : Nat => s.heap.size ≤ q) s s.heap ∧ va_T .byte q.2 (bk_len.getD i 0) (fun j => .int ((bk_byt.getD i []).getD j 0)) (fun q : Nat => s.heap.size ≤ q) s s.heap := by
    intro i
    by_cases hi : i < 39
    · obtain ⟨q, h⟩ := bk_strof (tm := bk_tm i) (n := bk_len.getD i 0) (byt := bk_byt.getD i []) (bk_g7 i hi) (hg _ (bk_g1 i hi)) (hg _ (bk_g2 i hi)) (hg _ (bk_g3 i hi)) (hg _ (bk_g4 i hi)) (fun j hj => hg _ (bk_g5 i hi j hj)) hA
      exact ⟨q, fun _ => h⟩
    · exact ⟨(0, 0), fun h => absurd h hi⟩
  have hK : ∀ c : Nat, ∃ q : ClassId × (Nat → Nat), ∀ r : vw_C, vwCl[c]? = some r → u_Kn s r.1 r.2.1 r.2.2 q.1 q.2 := by
    intro c
    match c with
    | 0 => exact bk_kn hG ok_0 ib_RX1
    | 1 => exact bk_kn hG ok_1 ib_RX2
    | 2 => exact bk_kn hG ok_2 ib_RX3
    | 3 => exact bk_kn hG ok_3 ib_RX4
    | 4 => exact bk_kn hG ok_4 ib_RX5
    | 5 => exact bk_kn hG ok_5 ib_RX6
    | 6 => exact bk_kn hG ok_6 ib_RX7
    | 7 => exact bk_kn hG ok_7 ib_RX8
    | 8 => exact bk_kn hG ok_8 ib_RX9
    | 9 => exact bk_kn hG ok_9 ib_RX10
    | 10 => exact bk_kn hG ok_10 ib_RX11
    | 11 => exact bk_kn hG ok_11 ib_RX12
    | n + 12 => exact ⟨(0, fun _ => 0), fun r hr => by cases hr⟩
  obtain ⟨ad, had⟩ := Classical.axiomOfChoice hS
  obtain ⟨dk, hdk⟩ := Classical.axiomOfChoice hK
  obtain ⟨c2, p2, r2⟩ := bk_arrof (hG _ ac_2)
  obtain ⟨c3, p3, r3⟩ := bk_arrof (hG _ ac_3)
  obtain ⟨c4, p4, r4⟩ := bk_arrof (hG _ ac_4)
  obtain ⟨c5, p5, r5⟩ := bk_arrof (hG _ ac_5)
  obtain ⟨t0, e0, T0⟩ := va_Tof (f := fun j => .int (bk_least.getD j 0)) (A := fun q : Nat => s.heap.size ≤ q) (by decide) (hg _ bk_gs1.1) (va_eqt (hg _ bk_gs1.2.1)) (fun j hj => va_eqt (hg _ (bk_gs1.2.2 j hj))) hA
  obtain ⟨t1, e1, T1⟩ := va_Tof (f := fun j => .int (bk_most.getD j 0)) (A := fun q : Nat => s.heap.size ≤ q) (by decide) (hg _ bk_gs2.1) (va_eqt (hg _ bk_gs2.2.1)) (fun j hj => va_eqt (hg _ (bk_gs2.2.2 j hj))) hA
  have w : ∀ k (x : Cond), bk_tabs[k]? = some x → x.before args s = true := fun k x hx => hT _ (bk_gs4 hx)
  refine ⟨((fun c => (dk c).1, fun c => (dk c).2), (fun t => if t = 2 then c2 else if t = 3 then c3 else if t = 4 then c4 else c5), s.heap.size, fun i => (ad i).1, fun i => (ad i).2, fun k => if k = 0 then t0 else t1), rfl, ⟨fun c q hq => hdk c q hq, fun k q hq => ?_⟩, fun w hw => va_Nw.of (bk_g10 w hw) (hT w (bk_g9 w hw)), fun i q hq => ?_, ⟨va_Zof (w 0 _ rfl) (w 6 _ rfl) e0 hA, T0, va_Zof (w 1 _ rfl) (w 6 _ rfl) e1 hA, T1, va_Zof (w 2 _ rfl) (w 7 _ rfl) (va_eqt (hg _ bk_gs3.1)) hA, va_Zqof (w 3 _ rfl) (w 8 _ rfl) (hg _ bk_gs3.2.1) hA, vx_Zqof (w 4 _ rfl) (w 9 _ rfl) (hg _ bk_gs3.2.2.1) hA, vx_Zqof (w 5 _ rfl) (w 9 _ rfl) (hg _ bk_gs3.2.2.2.1) hA⟩, va_Nc.of (hg _ bk_gs3.2.2.2.2)⟩
  · match k with
    | 0 => cases hq; exact ⟨p2, r2⟩
    | 1 => cases hq; exact ⟨p3, r3⟩
    | 2 => cases hq; exact ⟨p4, r4⟩
    | 3 => cases hq; exact ⟨p5, r5⟩
    | n + 4 => cases hq
  · have hi : i < 39 := by rw [← bk_g8]; exact (List.getElem?_eq_some_iff.mp hq).1
    obtain ⟨h1, h2, h3, h4, h5⟩ := had i hi
    have et : bk_tm i = .string q.1 q.2.1 := by unfold bk_tm; rw [hq]
    rw [et] at h1
    exact ⟨vk_R.of (hT _ (bk_g6 hq)) h1, h2, h3, h4, h5⟩
