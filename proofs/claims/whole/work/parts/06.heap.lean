def bk_nest : List Cond := [Cond.methodLinkNest "BucketTube" (9 : Nat) ({ cls := "BucketTube$Tape", name := "<init>", desc := "()V" } : MethodName) "BucketTube", Cond.methodLinkNest "BucketTube" (18 : Nat) ({ cls := "BucketTube$Route", name := "<init>", desc := "()V" } : MethodName) "BucketTube", Cond.fieldLinkNest "BucketTube" (319 : Nat) "BucketTube$Route" "begun" "Z" "BucketTube", Cond.methodLinkNest "BucketTube$Shed" (20 : Nat) ({ cls := "BucketTube$Holes", name := "<init>", desc := "()V" } : MethodName) "BucketTube", Cond.methodLinkNest "BucketTube$Shed" (27 : Nat) ({ cls := "BucketTube$Tries", name := "<init>", desc := "()V" } : MethodName) "BucketTube", Cond.methodLinkNest "BucketTube$Shed" (34 : Nat) ({ cls := "BucketTube$Riders", name := "<init>", desc := "()V" } : MethodName) "BucketTube", Cond.methodLinkNest "BucketTube$Shed" (41 : Nat) ({ cls := "BucketTube$Rule", name := "<init>", desc := "()V" } : MethodName) "BucketTube", Cond.fieldLinkNest "BucketTube" (90 : Nat) "BucketTube$Telling" "place" "I" "BucketTube", Cond.castable "[J" "java/lang/Cloneable", Cond.castable "java/lang/IllegalArgumentException" "java/lang/IllegalArgumentException", Cond.declares ({ cls := "java/lang/RuntimeException", name := "<init>", desc := "(Ljava/lang/String;)V" } : MethodName), Cond.declares ({ cls := "java/lang/Exception", name := "<init>", desc := "(Ljava/lang/String;)V" } : MethodName), Cond.declares ({ cls := "java/lang/Throwable", name := "<init>", desc := "(Ljava/lang/String;)V" } : MethodName), Cond.fieldLinkNest "BucketTube$Telling" (134 : Nat) "BucketTube" "SETTING_MOST" "[I" "BucketTube", Cond.fieldLinkNest "BucketTube$Telling" (137 : Nat) "BucketTube" "SETTING_LEAST" "[I" "BucketTube", Cond.methodLinkNest "BucketTube$Telling" (218 : Nat) ({ cls := "BucketTube", name := "isWithin", desc := "(III)Z" } : MethodName) "BucketTube", Cond.castable "java/util/NoSuchElementException" "java/util/NoSuchElementException", Cond.methodLinkNest "BucketTube$Route" (64 : Nat) ({ cls := "BucketTube", name := "isWithin", desc := "(III)Z" } : MethodName) "BucketTube", Cond.methodLinkNest "BucketTube$Riders" (42 : Nat) ({ cls := "BucketTube", name := "isWithin", desc := "(III)Z" } : MethodName) "BucketTube"]
def bk_strs : List (String × Nat × String) := [("BucketTube", 399, "a number is not as the document tells"), ("BucketTube$Telling", 43, "tube"), ("BucketTube$Telling", 119, "hand"), ("BucketTube$Telling", 121, "miss"), ("BucketTube$Telling", 123, "noise"), ("BucketTube$Telling", 125, "pressure"), ("BucketTube$Telling", 127, "mark"), ("BucketTube$Telling", 129, "clung"), ("BucketTube$Telling", 84, "leak"), ("BucketTube$Telling", 243, "not"), ("BucketTube$Telling", 266, "size"), ("BucketTube$Telling", 268, "side"), ("BucketTube$Telling", 270, "minute"), ("BucketTube$Telling", 272, "load"), ("BucketTube$Telling", 274, "minutes"), ("BucketTube$Telling", 276, "cold"), ("BucketTube$Telling", 278, "damp"), ("BucketTube$Telling", 280, "near"), ("BucketTube$Telling", 241, "and"), ("BucketTube$Telling", 231, "or"), ("BucketTube$Telling", 94, "holds"), ("BucketTube$Telling", 99, "hole"), ("BucketTube$Telling", 171, "outer"), ("BucketTube$Telling", 173, "left"), ("BucketTube$Telling", 175, "right"), ("BucketTube$Telling", 177, "rim"), ("BucketTube$Telling", 165, "slow"), ("BucketTube$Telling", 104, "cause"), ("BucketTube$Telling", 182, "thorn"), ("BucketTube$Telling", 184, "kerb"), ("BucketTube$Telling", 186, "spoke"), ("BucketTube$Telling", 188, "valve"), ("BucketTube$Telling", 109, "try"), ("BucketTube$Telling", 114, "rider"), ("BucketTube$Telling", 207, "flat"), ("BucketTube$Telling", 209, "well"), ("BucketTube", 155, "no such count"), ("BucketTube", 395, "there is none of that number"), ("BucketTube", 179, "no such thing of a hole")]
def bk_len : List Nat := [37, 4, 4, 4, 5, 8, 4, 5, 4, 3, 4, 4, 6, 4, 7, 4, 4, 4, 3, 2, 5, 4, 5, 4, 5, 3, 4, 5, 5, 4, 5, 5, 3, 5, 4, 4, 13, 28, 23]
def bk_byt : List (List Int32) := [[97, 32, 110, 117, 109, 98, 101, 114, 32, 105, 115, 32, 110, 111, 116, 32, 97, 115, 32, 116, 104, 101, 32, 100, 111, 99, 117, 109, 101, 110, 116, 32, 116, 101, 108, 108, 115], [116, 117, 98, 101], [104, 97, 110, 100], [109, 105, 115, 115], [110, 111, 105, 115, 101], [112, 114, 101, 115, 115, 117, 114, 101], [109, 97, 114, 107], [99, 108, 117, 110, 103], [108, 101, 97, 107], [110, 111, 116], [115, 105, 122, 101], [115, 105, 100, 101], [109, 105, 110, 117, 116, 101], [108, 111, 97, 100], [109, 105, 110, 117, 116, 101, 115], [99, 111, 108, 100], [100, 97, 109, 112], [110, 101, 97, 114], [97, 110, 100], [111, 114], [104, 111, 108, 100, 115], [104, 111, 108, 101], [111, 117, 116, 101, 114], [108, 101, 102, 116], [114, 105, 103, 104, 116], [114, 105, 109], [115, 108, 111, 119], [99, 97, 117, 115, 101], [116, 104, 111, 114, 110], [107, 101, 114, 98], [115, 112, 111, 107, 101], [118, 97, 108, 118, 101], [116, 114, 121], [114, 105, 100, 101, 114], [102, 108, 97, 116], [119, 101, 108, 108], [110, 111, 32, 115, 117, 99, 104, 32, 99, 111, 117, 110, 116], [116, 104, 101, 114, 101, 32, 105, 115, 32, 110, 111, 110, 101, 32, 111, 102, 32, 116, 104, 97, 116, 32, 110, 117, 109, 98, 101, 114], [110, 111, 32, 115, 117, 99, 104, 32, 116, 104, 105, 110, 103, 32, 111, 102, 32, 97, 32, 104, 111, 108, 101]]
def bk_least : List Int32 := [12, 1, 1, 1, 1, 0, 0, 1]
def bk_most : List Int32 := [84, 9, 99, 99, 100, 83, 99, 99]
def bk_kds : List (List Nat) := [[2, 2, 2, 0, 0], [2, 2, 2, 2, 0], [2, 2, 2, 2, 2, 0, 0], [2, 2, 0], [2, 2, 2, 2, 2, 2, 2, 2], [2, 0, 0, 0, 2], [2, 0], [2, 2, 0, 0, 0, 0], [2, 0, 0, 0, 0], [2, 2, 0], [2, 2, 2, 2, 2, 2, 2, 2, 0, 2, 0, 0, 0, 0, 0], [0, 0, 0, 0, 0, 0, 0, 0, 0, 0, 0, 0, 0, 0, 2, 2, 2, 2, 2, 2, 0, 0, 0, 2, 0, 0, 0, 0, 0, 0, 0, 1, 0, 0, 0, 0, 0, 0, 0, 0, 0, 0, 0, 0, 0, 0, 0, 0, 0, 1, 0, 2, 2, 2, 2, 2, 2, 2, 0, 0, 0, 0, 2, 2, 2, 2, 2, 2, 2, 0, 2, 0, 0, 0, 2, 0, 2, 0, 0, 0, 0, 0, 2, 2, 2]]
/-! heap pictures: shapes and references (a layout), numbers (values) -/
abbrev bk_Lay : Type := (Nat → Nat × Nat) × (Nat → Nat → Option Nat) × Nat
abbrev bk_Val : Type := (Nat → Nat → Int32) × (Nat → Nat → Int64)
def bk_up2 {α : Type} (f : Nat → Nat → α) (a k : Nat) (x : α) : Nat → Nat → α := fun b j => if b = a ∧ j = k then x else f b j
def bk_sh (Y : bk_Lay) (a : Nat) : Nat × Nat := Y.1 a
def bk_rR (Y : bk_Lay) (a k : Nat) : Option Nat := Y.2.1 a k
def bk_sz (Y : bk_Lay) : Nat := Y.2.2
def bk_rI (V : bk_Val) (a k : Nat) : Int32 := V.1 a k
def bk_rL (V : bk_Val) (a k : Nat) : Int64 := V.2 a k
def bk_wI (V : bk_Val) (a k : Nat) (x : Int32) : bk_Val := (bk_up2 V.1 a k x, V.2)
def bk_wL (V : bk_Val) (a k : Nat) (x : Int64) : bk_Val := (V.1, bk_up2 V.2 a k x)
def bk_wR (Y : bk_Lay) (a k : Nat) (r : Option Nat) : bk_Lay := (Y.1, bk_up2 Y.2.1 a k r, Y.2.2)
def bk_nw (Y : bk_Lay) (s : Nat × Nat) : bk_Lay := (va_up Y.1 Y.2.2 s, va_up Y.2.1 Y.2.2 (fun _ => none), Y.2.2 + 1)
def bk_nz (Y : bk_Lay) (V : bk_Val) : bk_Val := (va_up V.1 Y.2.2 (fun _ => 0), va_up V.2 Y.2.2 (fun _ => 0))
def bk_ck {α : Type} (c : Prop) [Decidable c] (x : Option α) : Option α := if c then x else none
theorem bk_ck_some {α : Type} {c : Prop} [Decidable c] {x : Option α} {o : α} (h : bk_ck c x = some o) : c ∧ x = some o := by
  unfold bk_ck at h
  by_cases hc : c
  · rw [if_pos hc] at h; exact ⟨hc, h⟩
  · rw [if_neg hc] at h; cases h
theorem bk_bd_some {α β : Type} {x : Option α} {f : α → Option β} {o : β} (h : x.bind f = some o) : ∃ y, x = some y ∧ f y = some o := by
  cases x with
  | none => cases h
  | some y => exact ⟨y, rfl, h⟩
theorem bk_up2_self {α : Type} (f : Nat → Nat → α) (a k : Nat) (x : α) : bk_up2 f a k x a k = x := by simp [bk_up2]
theorem bk_up2_off {α : Type} (f : Nat → Nat → α) {a k b : Nat} (x : α) (h : b ≠ a) : bk_up2 f a k x b = f b := by funext j; simp [bk_up2, h]
/-! the words -/
def bk_GW : List Cond := lw_tbl.filter goodWord
theorem bk_inT {w : Cond} (i : Nat) (h : tables_1[i]? = some w) (g : goodWord w = true) : w ∈ bk_GW := List.mem_filter.mpr ⟨List.mem_append_right _ (List.mem_of_getElem? h), g⟩
theorem bk_inS {w : Cond} (i : Nat) (h : (k2_sels lw_privs)[i]? = some w) (g : goodWord w = true) : w ∈ bk_GW := List.mem_filter.mpr ⟨List.mem_append_left _ (List.mem_of_getElem? h), g⟩
theorem bk_in1 {w : Cond} (h : w ∈ tables_1_1) (g : goodWord w = true) : w ∈ bk_GW := List.mem_filter.mpr ⟨List.mem_append_right _ (show w ∈ tables_1_1 ++ (tables_1_2 ++ (tables_1_3 ++ (tables_1_4 ++ (tables_1_5 ++ (tables_1_6 ++ (tables_1_7 ++ (tables_1_8 ++ tables_1_9))))))) from List.mem_append_left _ h), g⟩
theorem bk_in2 {w : Cond} (h : w ∈ tables_1_2) (g : goodWord w = true) : w ∈ bk_GW := List.mem_filter.mpr ⟨List.mem_append_right _ (show w ∈ tables_1_1 ++ (tables_1_2 ++ (tables_1_3 ++ (tables_1_4 ++ (tables_1_5 ++ (tables_1_6 ++ (tables_1_7 ++ (tables_1_8 ++ tables_1_9))))))) from List.mem_append_right _ (List.mem_append_left _ h)), g⟩
theorem bk_in3 {w : Cond} (h : w ∈ tables_1_3) (g : goodWord w = true) : w ∈ bk_GW := List.mem_filter.mpr ⟨List.mem_append_right _ (show w ∈ tables_1_1 ++ (tables_1_2 ++ (tables_1_3 ++ (tables_1_4 ++ (tables_1_5 ++ (tables_1_6 ++ (tables_1_7 ++ (tables_1_8 ++ tables_1_9))))))) from List.mem_append_right _ (List.mem_append_right _ (List.mem_append_left _ h))), g⟩
theorem bk_in4 {w : Cond} (h : w ∈ tables_1_4) (g : goodWord w = true) : w ∈ bk_GW := List.mem_filter.mpr ⟨List.mem_append_right _ (show w ∈ tables_1_1 ++ (tables_1_2 ++ (tables_1_3 ++ (tables_1_4 ++ (tables_1_5 ++ (tables_1_6 ++ (tables_1_7 ++ (tables_1_8 ++ tables_1_9))))))) from List.mem_append_right _ (List.mem_append_right _ (List.mem_append_right _ (List.mem_append_left _ h)))), g⟩
theorem bk_in5 {w : Cond} (h : w ∈ tables_1_5) (g : goodWord w = true) : w ∈ bk_GW := List.mem_filter.mpr ⟨List.mem_append_right _ (show w ∈ tables_1_1 ++ (tables_1_2 ++ (tables_1_3 ++ (tables_1_4 ++ (tables_1_5 ++ (tables_1_6 ++ (tables_1_7 ++ (tables_1_8 ++ tables_1_9))))))) from List.mem_append_right _ (List.mem_append_right _ (List.mem_append_right _ (List.mem_append_right _ (List.mem_append_left _ h))))), g⟩
theorem bk_in6 {w : Cond} (h : w ∈ tables_1_6) (g : goodWord w = true) : w ∈ bk_GW := List.mem_filter.mpr ⟨List.mem_append_right _ (show w ∈ tables_1_1 ++ (tables_1_2 ++ (tables_1_3 ++ (tables_1_4 ++ (tables_1_5 ++ (tables_1_6 ++ (tables_1_7 ++ (tables_1_8 ++ tables_1_9))))))) from List.mem_append_right _ (List.mem_append_right _ (List.mem_append_right _ (List.mem_append_right _ (List.mem_append_right _ (List.mem_append_left _ h)))))), g⟩
theorem bk_in7 {w : Cond} (h : w ∈ tables_1_7) (g : goodWord w = true) : w ∈ bk_GW := List.mem_filter.mpr ⟨List.mem_append_right _ (show w ∈ tables_1_1 ++ (tables_1_2 ++ (tables_1_3 ++ (tables_1_4 ++ (tables_1_5 ++ (tables_1_6 ++ (tables_1_7 ++ (tables_1_8 ++ tables_1_9))))))) from List.mem_append_right _ (List.mem_append_right _ (List.mem_append_right _ (List.mem_append_right _ (List.mem_append_right _ (List.mem_append_right _ (List.mem_append_left _ h))))))), g⟩
theorem bk_in8 {w : Cond} (h : w ∈ tables_1_8) (g : goodWord w = true) : w ∈ bk_GW := List.mem_filter.mpr ⟨List.mem_append_right _ (show w ∈ tables_1_1 ++ (tables_1_2 ++ (tables_1_3 ++ (tables_1_4 ++ (tables_1_5 ++ (tables_1_6 ++ (tables_1_7 ++ (tables_1_8 ++ tables_1_9))))))) from List.mem_append_right _ (List.mem_append_right _ (List.mem_append_right _ (List.mem_append_right _ (List.mem_append_right _ (List.mem_append_right _ (List.mem_append_right _ (List.mem_append_left _ h)))))))), g⟩
theorem bk_in9 {w : Cond} (h : w ∈ tables_1_9) (g : goodWord w = true) : w ∈ bk_GW := List.mem_filter.mpr ⟨List.mem_append_right _ (show w ∈ tables_1_1 ++ (tables_1_2 ++ (tables_1_3 ++ (tables_1_4 ++ (tables_1_5 ++ (tables_1_6 ++ (tables_1_7 ++ (tables_1_8 ++ tables_1_9))))))) from List.mem_append_right _ (List.mem_append_right _ (List.mem_append_right _ (List.mem_append_right _ (List.mem_append_right _ (List.mem_append_right _ (List.mem_append_right _ (List.mem_append_right _ (h))))))))), g⟩
theorem bk_inP1 {w : Cond} (h : w ∈ k2_sels lw_privs_1) (g : goodWord w = true) : w ∈ bk_GW := by
  refine List.mem_filter.mpr ⟨List.mem_append_left _ ?_, g⟩
  obtain ⟨q, hq, rfl⟩ := List.mem_map.mp h
  exact List.mem_map.mpr ⟨q, (show q ∈ lw_privs_1 ++ (lw_privs_2 ++ (lw_privs_3 ++ (lw_privs_4 ++ (lw_privs_5 ++ (lw_privs_6 ++ (lw_privs_7)))))) from List.mem_append_left _ hq), rfl⟩
theorem bk_inP2 {w : Cond} (h : w ∈ k2_sels lw_privs_2) (g : goodWord w = true) : w ∈ bk_GW := by
  refine List.mem_filter.mpr ⟨List.mem_append_left _ ?_, g⟩
  obtain ⟨q, hq, rfl⟩ := List.mem_map.mp h
  exact List.mem_map.mpr ⟨q, (show q ∈ lw_privs_1 ++ (lw_privs_2 ++ (lw_privs_3 ++ (lw_privs_4 ++ (lw_privs_5 ++ (lw_privs_6 ++ (lw_privs_7)))))) from List.mem_append_right _ (List.mem_append_left _ hq)), rfl⟩
theorem bk_inP3 {w : Cond} (h : w ∈ k2_sels lw_privs_3) (g : goodWord w = true) : w ∈ bk_GW := by
  refine List.mem_filter.mpr ⟨List.mem_append_left _ ?_, g⟩
  obtain ⟨q, hq, rfl⟩ := List.mem_map.mp h
  exact List.mem_map.mpr ⟨q, (show q ∈ lw_privs_1 ++ (lw_privs_2 ++ (lw_privs_3 ++ (lw_privs_4 ++ (lw_privs_5 ++ (lw_privs_6 ++ (lw_privs_7)))))) from List.mem_append_right _ (List.mem_append_right _ (List.mem_append_left _ hq))), rfl⟩
theorem bk_inP4 {w : Cond} (h : w ∈ k2_sels lw_privs_4) (g : goodWord w = true) : w ∈ bk_GW := by
  refine List.mem_filter.mpr ⟨List.mem_append_left _ ?_, g⟩
  obtain ⟨q, hq, rfl⟩ := List.mem_map.mp h
  exact List.mem_map.mpr ⟨q, (show q ∈ lw_privs_1 ++ (lw_privs_2 ++ (lw_privs_3 ++ (lw_privs_4 ++ (lw_privs_5 ++ (lw_privs_6 ++ (lw_privs_7)))))) from List.mem_append_right _ (List.mem_append_right _ (List.mem_append_right _ (List.mem_append_left _ hq)))), rfl⟩
theorem bk_inP5 {w : Cond} (h : w ∈ k2_sels lw_privs_5) (g : goodWord w = true) : w ∈ bk_GW := by
  refine List.mem_filter.mpr ⟨List.mem_append_left _ ?_, g⟩
  obtain ⟨q, hq, rfl⟩ := List.mem_map.mp h
  exact List.mem_map.mpr ⟨q, (show q ∈ lw_privs_1 ++ (lw_privs_2 ++ (lw_privs_3 ++ (lw_privs_4 ++ (lw_privs_5 ++ (lw_privs_6 ++ (lw_privs_7)))))) from List.mem_append_right _ (List.mem_append_right _ (List.mem_append_right _ (List.mem_append_right _ (List.mem_append_left _ hq))))), rfl⟩
theorem bk_inP6 {w : Cond} (h : w ∈ k2_sels lw_privs_6) (g : goodWord w = true) : w ∈ bk_GW := by
  refine List.mem_filter.mpr ⟨List.mem_append_left _ ?_, g⟩
  obtain ⟨q, hq, rfl⟩ := List.mem_map.mp h
  exact List.mem_map.mpr ⟨q, (show q ∈ lw_privs_1 ++ (lw_privs_2 ++ (lw_privs_3 ++ (lw_privs_4 ++ (lw_privs_5 ++ (lw_privs_6 ++ (lw_privs_7)))))) from List.mem_append_right _ (List.mem_append_right _ (List.mem_append_right _ (List.mem_append_right _ (List.mem_append_right _ (List.mem_append_left _ hq)))))), rfl⟩
theorem bk_inP7 {w : Cond} (h : w ∈ k2_sels lw_privs_7) (g : goodWord w = true) : w ∈ bk_GW := by
  refine List.mem_filter.mpr ⟨List.mem_append_left _ ?_, g⟩
  obtain ⟨q, hq, rfl⟩ := List.mem_map.mp h
  exact List.mem_map.mpr ⟨q, (show q ∈ lw_privs_1 ++ (lw_privs_2 ++ (lw_privs_3 ++ (lw_privs_4 ++ (lw_privs_5 ++ (lw_privs_6 ++ (lw_privs_7)))))) from List.mem_append_right _ (List.mem_append_right _ (List.mem_append_right _ (List.mem_append_right _ (List.mem_append_right _ (List.mem_append_right _ hq)))))), rfl⟩
theorem bk_inL (ws : List Cond) (ps : List Nat) (h : ws = ps.filterMap (fun i => tables_1[i]?)) (g : ws.all goodWord = true) : ∀ w ∈ ws, w ∈ bk_GW := by
  intro w hw
  have g1 := List.all_eq_true.mp g w hw
  rw [h] at hw
  obtain ⟨i, -, hi⟩ := List.mem_filterMap.mp hw
  exact bk_inT i hi g1
def bk_ws (y : MethodName) (cc : ByteArray) (nL : Nat) (ret : Option FieldType) : List Cond := Cond.code y cc nL ret :: bk_GW
theorem bk_good {y y' : MethodName} {cc cc' : ByteArray} {nL nL' : Nat} {ret ret' : Option FieldType} (h : Cond.code y' cc' nL' ret' ∈ bk_GW) : GoodIn bk_GW (bk_ws y' cc' nL' ret') := by
  intro w hw
  rcases List.mem_cons.mp hw with e | hw
  · rw [e]; exact ⟨h, good_of_word (List.mem_filter.mp h).2⟩
  · exact ⟨hw, good_of_word (List.mem_filter.mp hw).2⟩
/-! the constant surroundings of all methods -/
abbrev bk_G : Type := va_G × (Nat → ClassId) × Nat × (Nat → Nat) × (Nat → Nat) × (Nat → Nat)
def bk_A (G : bk_G) : Nat → Prop := fun q => G.2.2.1 ≤ q
def bk_tys (G : bk_G) : List (ClassId × FieldType) := [(G.2.1 2, .int), (G.2.1 3, .long), (G.2.1 4, .byte), (G.2.1 5, .boolean)]
def bk_str (G : bk_G) (i : Nat) (q : String × Nat × String) (U : State) : Prop := vk_R q.1 q.2.1 q.2.2 (G.2.2.2.1 i) U ∧ va_O "java/lang/String" (G.2.2.2.1 i) (bk_A G) U U.heap ∧ va_OF "java/lang/String" "coder" "B" (.int 0) (G.2.2.2.1 i) (bk_A G) U U.heap ∧ va_OF "java/lang/String" "value" "[B" (.ref (G.2.2.2.2.1 i)) (G.2.2.2.1 i) (bk_A G) U U.heap ∧ va_T .byte (G.2.2.2.2.1 i) (bk_len.getD i 0) (fun j => .int ((bk_byt.getD i []).getD j 0)) (bk_A G) U U.heap
def bk_sta (G : bk_G) (U : State) : Prop :=
  va_Z "BucketTube" "SETTING_LEAST" "[I" (.ref (G.2.2.2.2.2 0)) (bk_A G) U U.heap ∧ va_T .int (G.2.2.2.2.2 0) 8 (fun j => .int (bk_least.getD j 0)) (bk_A G) U U.heap ∧
  va_Z "BucketTube" "SETTING_MOST" "[I" (.ref (G.2.2.2.2.2 1)) (bk_A G) U U.heap ∧ va_T .int (G.2.2.2.2.2 1) 8 (fun j => .int (bk_most.getD j 0)) (bk_A G) U U.heap ∧
  va_Z "java/lang/String" "COMPACT_STRINGS" "Z" (.int 1) (bk_A G) U U.heap ∧ va_Zq "jdk/internal/util/Preconditions" "SIOOBE_FORMATTER" "Ljava/util/function/BiFunction;" (bk_A G) U U.heap ∧
  vx_Zq Bundle.tN "UNASSIGNED_STACK" Bundle.steD (bk_A G) U U.heap ∧ vx_Zq Bundle.tN "SUPPRESSED_SENTINEL" Bundle.listD (bk_A G) U U.heap
def bk_E (G : bk_G) (U : State) : Prop := va_K G.1 vwCl (bk_tys G) U ∧ (∀ w ∈ bk_nest, va_Nw w U) ∧ (∀ (i : Nat) (q : String × Nat × String), bk_strs[i]? = some q → bk_str G i q U) ∧ bk_sta G U ∧ va_Nc "java/lang/IllegalArgumentException" "java/util/NoSuchElementException" U
theorem bk_nest_warm {s U : State} (hW : s.WarmedH U.vm) : ∀ w ∈ bk_nest, va_Nw w s → va_Nw w U := by
  intro w hw
  simp only [bk_nest, List.mem_cons, List.not_mem_nil, or_false] at hw
  rcases hw with rfl | rfl | rfl | rfl | rfl | rfl | rfl | rfl | rfl | rfl | rfl | rfl | rfl | rfl | rfl | rfl | rfl | rfl | rfl <;> first | exact va_Nw.warmF hW | exact va_Nw.warmM hW | exact va_Nw.warmC hW | exact va_Nw.warmD hW
theorem bk_E.go {G : bk_G} {s U : State} (hW : s.WarmedH U.vm) (hq : ∀ a : Nat, a < s.heap.size → ¬ bk_A G a → U.heap[a]? = s.heap[a]?) (h : bk_E G s) : bk_E G U := by
  obtain ⟨h1, h2, h3, ⟨g1, g2, g3, g4, g5, g6, g7, g8⟩, h5⟩ := h
  refine ⟨va_K.moved hW.alike h1, fun w hw => bk_nest_warm hW w hw (h2 w hw), fun i q hi => ?_, ⟨(g1.kept hq).moved hW.alike, (g2.kept hq).moved hW.alike, (g3.kept hq).moved hW.alike, (g4.kept hq).moved hW.alike, (g5.kept hq).moved hW.alike, (g6.kept hq).moved hW.alike, (g7.kept hq).moved hW.alike, (g8.kept hq).moved hW.alike⟩, h5.moved hW.alike⟩
  obtain ⟨a1, a2, a3, a4, a5⟩ := h3 i q hi
  exact ⟨a1.warm hW, (a2.kept hq).moved hW.alike, (a3.kept hq).moved hW.alike, (a4.kept hq).moved hW.alike, (a5.kept hq).moved hW.alike⟩
theorem bk_E.calling {G : bk_G} {U : State} {g : JFrame} {mk : MethodId} {a : Array Value} (h : bk_E G U) : bk_E G (U.calling g mk a) := by
  obtain ⟨h1, h2, h3, ⟨g1, g2, g3, g4, g5, g6, g7, g8⟩, h5⟩ := h
  have al : U.vm.Alike (U.calling g mk a).vm := Vm.Alike.refl U.vm
  refine ⟨va_K.moved al h1, fun w hw => ?_, fun i q hi => ?_, ⟨g1.moved al, g2.moved al, g3.moved al, g4.moved al, g5.moved al, g6.moved al, g7.moved al, g8.moved al⟩, h5.moved al⟩
  · have h := h2 w hw
    simp only [bk_nest, List.mem_cons, List.not_mem_nil, or_false] at hw
    rcases hw with rfl | rfl | rfl | rfl | rfl | rfl | rfl | rfl | rfl | rfl | rfl | rfl | rfl | rfl | rfl | rfl | rfl | rfl | rfl <;> exact va_Nw.same rfl (u := U) rfl h
  · obtain ⟨a1, a2, a3, a4, a5⟩ := h3 i q hi
    exact ⟨a1.same (u := U) rfl, a2.moved al, a3.moved al, a4.moved al, a5.moved al⟩
/-! the picture holds in a heap -/
def bk_kd (ci k : Nat) : Nat := (bk_kds.getD ci []).getD k 0
def bk_fv (Y : bk_Lay) (V : bk_Val) (ci a k : Nat) : Value := if bk_kd ci k = 0 then .int (V.1 a k) else if bk_kd ci k = 1 then .long (V.2 a k) else va_rf (Y.2.1 a k)
def bk_cell (G : bk_G) (Y : bk_Lay) (V : bk_Val) (a : Nat) (H : Heap) : Prop :=
  if (Y.1 a).1 = 0 then True
  else if (Y.1 a).1 = 1 then ∃ r : vw_C, vwCl[(Y.1 a).2]? = some r ∧ t_OB a (G.1.1 (Y.1 a).2) r.2.2 (G.1.2 (Y.1 a).2) H (bk_fv Y V (Y.1 a).2 a)
  else if (Y.1 a).1 = 3 then H[a]? = some (arrV (G.2.1 3) (Y.1 a).2 (fun j => .long (V.2 a j)))
  else H[a]? = some (arrV (G.2.1 (Y.1 a).1) (Y.1 a).2 (fun j => .int (V.1 a j)))
def bk_P (G : bk_G) (Y : bk_Lay) (V : bk_Val) (H : Heap) : Prop := H.size = Y.2.2 ∧ (∀ a, bk_cell G Y V a H) ∧ ∀ a, (Y.1 a).1 ≠ 0 → G.2.2.1 ≤ a ∧ a < Y.2.2
def bk_H (G : bk_G) (Y : bk_Lay) (V : bk_Val) (H0 H : Heap) (locs : List Loc) : Prop := bk_P G Y V H ∧ va_S (bk_A G) H0 H locs ∧ G.2.2.1 ≤ H0.size
theorem bk_fv_congr {Y Y1 : bk_Lay} {V V1 : bk_Val} {a : Nat} (h1 : V1.1 a = V.1 a) (h2 : V1.2 a = V.2 a) (h3 : Y1.2.1 a = Y.2.1 a) (ci : Nat) : bk_fv Y1 V1 ci a = bk_fv Y V ci a := by
  funext k
  simp only [bk_fv, h1, h2, h3]
theorem bk_cell.kept {G : bk_G} {Y Y1 : bk_Lay} {V V1 : bk_Val} {a : Nat} {H H1 : Heap} (h : bk_cell G Y V a H) (hs : Y1.1 a = Y.1 a) (h1 : V1.1 a = V.1 a) (h2 : V1.2 a = V.2 a) (h3 : Y1.2.1 a = Y.2.1 a) (hq : H1[a]? = H[a]?) : bk_cell G Y1 V1 a H1 := by
  unfold bk_cell at h ⊢
  rw [hs, bk_fv_congr h1 h2 h3, h1, h2, hq]
  split
  · trivial
  · rename_i n0
    rw [if_neg n0] at h
    split
    · rename_i n1
      rw [if_pos n1] at h
      obtain ⟨r, a1, a2⟩ := h
      exact ⟨r, a1, a2.kept hq⟩
    · rename_i n1
      rw [if_neg n1] at h
      exact h
theorem bk_P.upd {G : bk_G} {Y Y1 : bk_Lay} {V V1 : bk_Val} {H H1 : Heap} {a : Nat} (h : bk_P G Y V H) (hs : Y1.1 = Y.1) (hz : Y1.2.2 = Y.2.2) (ho : ∀ b, b ≠ a → V1.1 b = V.1 b ∧ V1.2 b = V.2 b ∧ Y1.2.1 b = Y.2.1 b) (hc : bk_cell G Y1 V1 a H1) (z : H1.size = H.size) (oq : ∀ q : Nat, q ≠ a → H1[q]? = H[q]?) : bk_P G Y1 V1 H1 := by
  obtain ⟨p1, p2, p3⟩ := h
  refine ⟨by rw [z, p1, hz], fun b => ?_, fun b hb => by rw [hs] at hb; rw [hz]; exact p3 b hb⟩
  by_cases e : b = a
  · rw [e]; exact hc
  · exact (p2 b).kept (by rw [hs]) (ho b e).1 (ho b e).2.1 (ho b e).2.2 (oq b e)
theorem bk_P.new {G : bk_G} {Y : bk_Lay} {V : bk_Val} {H H1 : Heap} {s : Nat × Nat} (h : bk_P G Y V H) (hz0 : G.2.2.1 ≤ H.size) (hc : bk_cell G (bk_nw Y s) (bk_nz Y V) Y.2.2 H1) (z : H1.size = H.size + 1) (oq : ∀ q : Nat, q < H.size → H1[q]? = H[q]?) : bk_P G (bk_nw Y s) (bk_nz Y V) H1 := by
  obtain ⟨p1, p2, p3⟩ := h
  refine ⟨by rw [z, p1]; rfl, fun b => ?_, fun b hb => ?_⟩
  · by_cases e : b = Y.2.2
    · rw [e]; exact hc
    · by_cases e0 : (Y.1 b).1 = 0
      · unfold bk_cell
        rw [if_pos]
        · trivial
        · show (va_up Y.1 Y.2.2 s b).1 = 0
          rw [va_up_ne _ _ e]; exact e0
      · exact (p2 b).kept (show va_up Y.1 Y.2.2 s b = Y.1 b from va_up_ne _ _ e) (show va_up V.1 Y.2.2 _ b = V.1 b from va_up_ne _ _ e) (show va_up V.2 Y.2.2 _ b = V.2 b from va_up_ne _ _ e) (show va_up Y.2.1 Y.2.2 _ b = Y.2.1 b from va_up_ne _ _ e) (oq b (by rw [p1]; exact (p3 b e0).2))
  · by_cases e : b = Y.2.2
    · rw [e]; exact ⟨by rw [← p1]; exact hz0, Nat.lt_succ_self _⟩
    · have : (va_up Y.1 Y.2.2 s b).1 ≠ 0 := hb
      rw [va_up_ne _ _ e] at this
      exact ⟨(p3 b this).1, Nat.lt_succ_of_lt (p3 b this).2⟩
theorem bk_obj {G : bk_G} {Y : bk_Lay} {V : bk_Val} {H : Heap} {a ci : Nat} (h : bk_P G Y V H) (hs : Y.1 a = (1, ci)) : ∃ r : vw_C, vwCl[ci]? = some r ∧ t_OB a (G.1.1 ci) r.2.2 (G.1.2 ci) H (bk_fv Y V ci a) := by
  have := h.2.1 a
  unfold bk_cell at this
  rw [hs] at this
  exact this
theorem bk_arrI {G : bk_G} {Y : bk_Lay} {V : bk_Val} {H : Heap} {a t n : Nat} (h : bk_P G Y V H) (hs : Y.1 a = (t, n)) (h0 : t = 2 ∨ t = 4 ∨ t = 5) : H[a]? = some (arrV (G.2.1 t) n (fun j => .int (V.1 a j))) := by
  have := h.2.1 a
  unfold bk_cell at this
  rw [hs] at this
  rcases h0 with rfl | rfl | rfl <;> exact this
theorem bk_arrL {G : bk_G} {Y : bk_Lay} {V : bk_Val} {H : Heap} {a n : Nat} (h : bk_P G Y V H) (hs : Y.1 a = (3, n)) : H[a]? = some (arrV (G.2.1 3) n (fun j => .long (V.2 a j))) := by
  have := h.2.1 a
  unfold bk_cell at this
  rw [hs] at this
  exact this
theorem bk_cell_obj {G : bk_G} {Y : bk_Lay} {V : bk_Val} {H : Heap} {a ci : Nat} (hs : Y.1 a = (1, ci)) (h : ∃ r : vw_C, vwCl[ci]? = some r ∧ t_OB a (G.1.1 ci) r.2.2 (G.1.2 ci) H (bk_fv Y V ci a)) : bk_cell G Y V a H := by
  unfold bk_cell
  rw [hs]
  exact h
theorem bk_cell_I {G : bk_G} {Y : bk_Lay} {V : bk_Val} {H : Heap} {a t n : Nat} (hs : Y.1 a = (t, n)) (h0 : t = 2 ∨ t = 4 ∨ t = 5) (h : H[a]? = some (arrV (G.2.1 t) n (fun j => .int (V.1 a j)))) : bk_cell G Y V a H := by
  unfold bk_cell
  rw [hs]
  rcases h0 with rfl | rfl | rfl <;> exact h
theorem bk_cell_L {G : bk_G} {Y : bk_Lay} {V : bk_Val} {H : Heap} {a n : Nat} (hs : Y.1 a = (3, n)) (h : H[a]? = some (arrV (G.2.1 3) n (fun j => .long (V.2 a j)))) : bk_cell G Y V a H := by
  unfold bk_cell
  rw [hs]
  exact h
/-! a class, a field's link -/
def bk_ok (ci : Nat) (C : String) (T : u_T) (N : Nat) (ty : Nat → FieldType) : Prop := vwCl[ci]? = some (C, T, N) ∧ (∀ w ∈ u_ws C T N, w ∈ bk_GW) ∧ (∀ k, k < N → parseFieldDescriptor (T k).2.2.1 = some (ty k)) ∧ (∀ a, a < N → ∀ b, b < N → a ≠ b → (T a).2.1 ≠ (T b).2.1) ∧ ∀ k, k < N → defaultValue (ty k) = (if bk_kd ci k = 0 then .int 0 else if bk_kd ci k = 1 then .long 0 else .null)
def bk_fl (own : String) (index ci k : Nat) : Prop := ∃ (C : String) (T : u_T) (N : Nat) (ty : Nat → FieldType), bk_ok ci C T N ty ∧ k < N ∧ (Cond.fieldLink own index (T k).1 (T k).2.1 (T k).2.2.1 ∈ bk_GW ∨ ∃ host, Cond.fieldLinkNest own index (T k).1 (T k).2.1 (T k).2.2.1 host ∈ bk_nest)
def bk_fp (own : String) (index ci k : Nat) (fty : FieldType) (ctor : Bool) : Prop := ∃ (C : String) (T : u_T) (N : Nat) (ty : Nat → FieldType), bk_ok ci C T N ty ∧ k < N ∧ ty k = fty ∧ Cond.fieldLink own index (T k).1 (T k).2.1 (T k).2.2.1 ∈ bk_GW ∧ ((T k).2.2.2 = false ∨ (ctor = true ∧ (T k).2.2.2 = true ∧ (T k).1 = own))
