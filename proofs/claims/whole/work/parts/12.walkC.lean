section
variable {p : Program} {l : Launch} {e : Env} {s : State} {m : MethodId} {args : Array Value} {below : List Frame} {meth : Method} {c : Code} {G : bk_G} {N : Nat} {Y : bk_Lay}
def rm_X11_feed : Room := bk_rm 1 0 0 22
set_option maxRecDepth 100000 in
set_option maxHeartbeats 4000000 in
theorem w_X11_feed (C : bk_C G p s m args meth c cX11_feed RX11 6 (some FieldType.int)) : ∀ (V : bk_Val) (a0 : Nat) (x1 : Int32) (x2 : Int32) (x3 : Int32) (x4 : Int32) (x5 : Int32) (H : Heap) (locs : List Loc) (ls : Array Slot) (out : Int32 × bk_Val), lv_has ls 6 [(0, .ref a0), (1, .int x1), (2, .int x2), (3, .int x3), (4, .int x4), (5, .int x5)] → bk_H G Y V s.heap H locs → q_X11_feed N Y V a0 x1 x2 x3 x4 x5 = some out → W p l e rm_X11_feed s m args below meth c H locs 0 0 (MQ below (bk_Q G (some (.int out.1)) Y out.2) args s 0 0 (bk_A G)) (F0 m 0 ls []) := by
  have hx := C.1
  have hb := C.2.1
  intro V a0 x1 x2 x3 x4 x5 H locs ls out hl hH hq
  unfold q_X11_feed at hq
  refine lv_aload_n hx hb dX11_feed_0 rfl (lv_at hl 0 rfl) ?_
  obtain ⟨hs_1, hq⟩ := bk_ck_some hq
  obtain ⟨b_2, hr_3, hq⟩ := bk_bd_some hq
  refine bk_getr C hH fl_RX11_10 hs_1 rfl hr_3 dX11_feed_1 ?_
  obtain ⟨hs_6, hq⟩ := bk_ck_some hq
  obtain ⟨r_5, hr_4, hq⟩ := bk_bd_some hq
  refine bk_callV (rest := []) (As := []) (ro := (some (.int r_5))) (Y1 := Y) (V1 := V) C hH hl.1 (c_X7_hasRoom hr_4) mc_X7_hasRoom mv_X7_hasRoom lk_RX11_67 hs_6 rfl rfl ⟨rfl, rfl⟩ ⟨by decide, by decide⟩ rfl (Nat.le_of_ble_eq_true rfl) dX11_feed_4 ⟨by decide, by decide⟩ (fun H locs hH => ?_)
  refine lv_if_ne (tgt := 12) hx hb dX11_feed_7 (by decide) (fun hc_17 => ?_) (fun hc_17 => ?_)
  · rw [if_neg hc_17] at hq
    refine lv_aload_n hx hb dX11_feed_12 rfl (lv_at hl 0 rfl) ?_
    refine bk_getr C hH fl_RX11_10 hs_1 rfl hr_3 dX11_feed_13 ?_
    refine lv_iload_n hx hb dX11_feed_16 rfl (lv_at hl 1 rfl) ?_
    obtain ⟨V_8, hr_7, hq⟩ := bk_bd_some hq
    refine bk_callV (rest := []) (As := [.int x1]) (ro := none) (Y1 := Y) (V1 := V_8) C hH hl.1 (c_X7_add hr_7) mc_X7_add mv_X7_add lk_RX11_71 hs_6 rfl rfl ⟨rfl, rfl⟩ ⟨by decide, by decide⟩ rfl (Nat.le_of_ble_eq_true rfl) dX11_feed_17 ⟨by decide, by decide⟩ (fun H locs hH => ?_)
    refine lv_aload_n hx hb dX11_feed_20 rfl (lv_at hl 0 rfl) ?_
    refine bk_getr C hH fl_RX11_10 hs_1 rfl hr_3 dX11_feed_21 ?_
    refine lv_iload_n hx hb dX11_feed_24 rfl (lv_at hl 2 rfl) ?_
    obtain ⟨V_10, hr_9, hq⟩ := bk_bd_some hq
    refine bk_callV (rest := []) (As := [.int x2]) (ro := none) (Y1 := Y) (V1 := V_10) C hH hl.1 (c_X7_add hr_9) mc_X7_add mv_X7_add lk_RX11_71 hs_6 rfl rfl ⟨rfl, rfl⟩ ⟨by decide, by decide⟩ rfl (Nat.le_of_ble_eq_true rfl) dX11_feed_25 ⟨by decide, by decide⟩ (fun H locs hH => ?_)
    refine lv_aload_n hx hb dX11_feed_28 rfl (lv_at hl 0 rfl) ?_
    refine bk_getr C hH fl_RX11_10 hs_1 rfl hr_3 dX11_feed_29 ?_
    refine lv_iload_n hx hb dX11_feed_32 rfl (lv_at hl 3 rfl) ?_
    obtain ⟨V_12, hr_11, hq⟩ := bk_bd_some hq
    refine bk_callV (rest := []) (As := [.int x3]) (ro := none) (Y1 := Y) (V1 := V_12) C hH hl.1 (c_X7_add hr_11) mc_X7_add mv_X7_add lk_RX11_71 hs_6 rfl rfl ⟨rfl, rfl⟩ ⟨by decide, by decide⟩ rfl (Nat.le_of_ble_eq_true rfl) dX11_feed_33 ⟨by decide, by decide⟩ (fun H locs hH => ?_)
    refine lv_aload_n hx hb dX11_feed_36 rfl (lv_at hl 0 rfl) ?_
    refine bk_getr C hH fl_RX11_10 hs_1 rfl hr_3 dX11_feed_37 ?_
    refine lv_iload hx hb dX11_feed_40 (lv_at hl 4 rfl) ?_
    obtain ⟨V_14, hr_13, hq⟩ := bk_bd_some hq
    refine bk_callV (rest := []) (As := [.int x4]) (ro := none) (Y1 := Y) (V1 := V_14) C hH hl.1 (c_X7_add hr_13) mc_X7_add mv_X7_add lk_RX11_71 hs_6 rfl rfl ⟨rfl, rfl⟩ ⟨by decide, by decide⟩ rfl (Nat.le_of_ble_eq_true rfl) dX11_feed_42 ⟨by decide, by decide⟩ (fun H locs hH => ?_)
    refine lv_aload_n hx hb dX11_feed_45 rfl (lv_at hl 0 rfl) ?_
    refine bk_getr C hH fl_RX11_10 hs_1 rfl hr_3 dX11_feed_46 ?_
    refine lv_iload hx hb dX11_feed_49 (lv_at hl 5 rfl) ?_
    obtain ⟨V_16, hr_15, hq⟩ := bk_bd_some hq
    refine bk_callV (rest := []) (As := [.int x5]) (ro := none) (Y1 := Y) (V1 := V_16) C hH hl.1 (c_X7_add hr_15) mc_X7_add mv_X7_add lk_RX11_71 hs_6 rfl rfl ⟨rfl, rfl⟩ ⟨by decide, by decide⟩ rfl (Nat.le_of_ble_eq_true rfl) dX11_feed_51 ⟨by decide, by decide⟩ (fun H locs hH => ?_)
    refine lv_aload_n hx hb dX11_feed_54 rfl (lv_at hl 0 rfl) ?_
    refine bk_getr C hH fl_RX11_10 hs_1 rfl hr_3 dX11_feed_55 ?_
    refine bk_geti C hH fl_RX11_75 hs_6 rfl dX11_feed_58 ?_
    cases hq
    exact bk_iret C hH dX11_feed_61
  · rw [if_pos hc_17] at hq
    refine lv_iconst (v := (-1)) hx hb dX11_feed_10 (by decide) ?_
    cases hq
    exact bk_iret C hH dX11_feed_11
set_option maxRecDepth 100000 in
theorem c_X11_feed {l : Launch} {G : bk_G} {N : Nat} {Y : bk_Lay} {V : bk_Val} {a0 : Nat} {x1 : Int32} {x2 : Int32} {x3 : Int32} {x4 : Int32} {x5 : Int32} {out : Int32 × bk_Val} (hq : q_X11_feed N Y V a0 x1 x2 x3 x4 x5 = some out) : Met l yX11_feed (bk_ws yX11_feed cX11_feed 6 (some FieldType.int)) rm_X11_feed (bk_Pc G [.ref a0, .int x1, .int x2, .int x3, .int x4, .int x5] Y V) (bk_Q G (some (.int out.1)) Y out.2) 0 0 (bk_A G) :=
  bk_met (by decide) (Nat.le_of_ble_eq_true rfl) (fun p e s m args below meth c ls C hnm hH hl => w_X11_feed C _ _ _ _ _ _ _ _ _ _ _ hl hH hq)

def rm_X11_needElement : Room := bk_rm 8 1 6 200
set_option maxRecDepth 100000 in
set_option maxHeartbeats 4000000 in
theorem w_X11_needElement (C : bk_C G p s m args meth c cX11_needElement RX11 1 (none : Option FieldType)) (hst : l.stackTraces = false) (hT9 : ∀ x ∈ c.exceptionTable.toList, False) : ∀ (V : bk_Val) (x0 : Int32) (H : Heap) (locs : List Loc) (ls : Array Slot) (out : Nat ⊕ (Unit)), lv_has ls 1 [(0, .int x0)] → bk_H G Y V s.heap H locs → q_X11_needElement N Y V x0 = some out → W p l e rm_X11_needElement s m args below meth c H locs 0 0 (vx_MQ below (bk_QX (fun (o : Unit) => bk_Q G none Y V) out) (bk_XC G Y V out) args s 1 6 (bk_A G)) (F0 m 0 ls []) := by
  have hx := C.1
  have hb := C.2.1
  intro V x0 H locs ls out hl hH hq
  unfold q_X11_needElement at hq
  refine lv_iload_n hx hb dX11_needElement_0 rfl (lv_at hl 0 rfl) ?_
  refine lv_if_ne (tgt := 15) hx hb dX11_needElement_1 (by decide) (fun hc_1 => ?_) (fun hc_1 => ?_)
  · rw [if_neg hc_1] at hq
    refine W.widen (k := 1) (n := 6) (by decide) (by decide) ?_
    refine vx_ret ?_
    cases hq
    exact bk_vret C hH dX11_needElement_15
  · rw [if_pos hc_1] at hq
    cases hq
    exact bk_throwX (i := 37) (e9 := 1) (tx := "there is none of that number") C hst hT9 hH hl.1 rfl rfl x0_1 x1_1 x2_1 x5_1 cl_RX11_153 in_exc1 cx_1 lx_1 (by decide) (by decide) tw1_157 tw2_157 tw3_157_153 dX11_needElement_4 dX11_needElement_7 (Or.inr ⟨rfl, dX11_needElement_8⟩) dX11_needElement_11 dX11_needElement_14 (by decide) (by decide) (by decide) (by decide) (by decide) (by decide)
set_option maxRecDepth 100000 in
theorem c_X11_needElement {l : Launch} {G : bk_G} {N : Nat} {Y : bk_Lay} {V : bk_Val} (hst : l.stackTraces = false) {x0 : Int32} {out : Nat ⊕ (Unit)} (hq : q_X11_needElement N Y V x0 = some out) : vx_Met l yX11_needElement (bk_ws yX11_needElement cX11_needElement 1 (none : Option FieldType)) rm_X11_needElement (bk_Pc G [.int x0] Y V) (bk_QX (fun (o : Unit) => bk_Q G none Y V) out) (bk_XC G Y V out) 1 6 (bk_A G) :=
  bk_metx (by decide) (Nat.le_of_ble_eq_true rfl) (fun p e s m args below meth c ls C hT9 hH hl => w_X11_needElement C hst hT9 _ _ _ _ _ _ hl hH hq)

def rm_X11_leakingHoles : Room := bk_rm 1 0 0 21
set_option maxRecDepth 100000 in
set_option maxHeartbeats 4000000 in
theorem w_X11_leakingHoles_42 (C : bk_C G p s m args meth c cX11_leakingHoles RX11 4 (some FieldType.int)) (k4 : bk_Val → Nat → Int32 → Int32 → Int32 → Option (Int32)) (i4 : ∀ (V : bk_Val) (a0 : Nat) (x1 : Int32) (x2 : Int32) (x3 : Int32) (H : Heap) (locs : List Loc) (ls : Array Slot) (out : Int32), lv_has ls 4 [(0, .ref a0), (1, .int x1), (2, .int x2), (3, .int x3)] → bk_H G Y V s.heap H locs → k4 V a0 x1 x2 x3 = some out → W p l e rm_X11_leakingHoles s m args below meth c H locs 0 0 (MQ below (bk_Q G (some (.int out)) Y V) args s 0 0 (bk_A G)) (F0 m 4 ls [])) : ∀ (V : bk_Val) (a0 : Nat) (x1 : Int32) (x2 : Int32) (x3 : Int32) (H : Heap) (locs : List Loc) (ls : Array Slot) (out : Int32), lv_has ls 4 [(0, .ref a0), (1, .int x1), (2, .int x2), (3, .int x3)] → bk_H G Y V s.heap H locs → q_X11_leakingHoles_42 N Y k4 V a0 x1 x2 x3 = some out → W p l e rm_X11_leakingHoles s m args below meth c H locs 0 0 (MQ below (bk_Q G (some (.int out)) Y V) args s 0 0 (bk_A G)) (F0 m 42 ls []) := by
  have hx := C.1
  have hb := C.2.1
  intro V a0 x1 x2 x3 H locs ls out hl hH hq
  unfold q_X11_leakingHoles_42 at hq
  refine lv_iinc (v := (x3 + 1)) (lv' := [(3, .int (x3 + 1)), (0, .ref a0), (1, .int x1), (2, .int x2)]) hx hb dX11_leakingHoles_42 hl (k := 3) rfl rfl (by decide) rfl (fun ls hl => ?_)
  refine lv_goto (tgt := 4) hx hb dX11_leakingHoles_45 (by decide) ?_
  exact i4 _ _ _ _ _ _ _ _ _ (lv_sub hl [1, 2, 3, 0] rfl) hH hq

set_option maxRecDepth 100000 in
set_option maxHeartbeats 4000000 in
theorem w_X11_leakingHoles_36 (C : bk_C G p s m args meth c cX11_leakingHoles RX11 4 (some FieldType.int)) (k4 : bk_Val → Nat → Int32 → Int32 → Int32 → Option (Int32)) (i4 : ∀ (V : bk_Val) (a0 : Nat) (x1 : Int32) (x2 : Int32) (x3 : Int32) (H : Heap) (locs : List Loc) (ls : Array Slot) (out : Int32), lv_has ls 4 [(0, .ref a0), (1, .int x1), (2, .int x2), (3, .int x3)] → bk_H G Y V s.heap H locs → k4 V a0 x1 x2 x3 = some out → W p l e rm_X11_leakingHoles s m args below meth c H locs 0 0 (MQ below (bk_Q G (some (.int out)) Y V) args s 0 0 (bk_A G)) (F0 m 4 ls [])) : ∀ (V : bk_Val) (a0 : Nat) (x1 : Int32) (x2 : Int32) (x3 : Int32) (H : Heap) (locs : List Loc) (ls : Array Slot) (out : Int32), lv_has ls 4 [(0, .ref a0), (1, .int x1), (2, .int x2), (3, .int x3)] → bk_H G Y V s.heap H locs → q_X11_leakingHoles_36 N Y k4 V a0 x1 x2 x3 = some out → W p l e rm_X11_leakingHoles s m args below meth c H locs 0 0 (MQ below (bk_Q G (some (.int out)) Y V) args s 0 0 (bk_A G)) (F0 m 36 ls []) := by
  have hx := C.1
  have hb := C.2.1
  intro V a0 x1 x2 x3 H locs ls out hl hH hq
  unfold q_X11_leakingHoles_36 at hq
  refine lv_iload_n hx hb dX11_leakingHoles_36 rfl (lv_at hl 2 rfl) ?_
  refine lv_iconst (v := 1) hx hb dX11_leakingHoles_37 (by decide) ?_
  refine lv_iload_n hx hb dX11_leakingHoles_38 rfl (lv_at hl 3 rfl) ?_
  refine bk_ishl hx hb dX11_leakingHoles_39 ?_
  refine lv_ior hx hb dX11_leakingHoles_40 ?_
  refine lv_istore_n (lv' := [(2, .int (x2 ||| (bk_shl 1 x3))), (0, .ref a0), (1, .int x1), (3, .int x3)]) hx hb dX11_leakingHoles_41 rfl hl (by decide) rfl (fun ls hl => ?_)
  exact w_X11_leakingHoles_42 C _ i4 _ _ _ _ _ _ _ _ _ (lv_sub hl [1, 2, 0, 3] rfl) hH hq

set_option maxRecDepth 100000 in
set_option maxHeartbeats 4000000 in
theorem w_X11_leakingHoles_4 (C : bk_C G p s m args meth c cX11_leakingHoles RX11 4 (some FieldType.int)) : ∀ (n : Nat), ∀ (V : bk_Val) (a0 : Nat) (x1 : Int32) (x2 : Int32) (x3 : Int32) (H : Heap) (locs : List Loc) (ls : Array Slot) (out : Int32), lv_has ls 4 [(0, .ref a0), (1, .int x1), (2, .int x2), (3, .int x3)] → bk_H G Y V s.heap H locs → q_X11_leakingHoles_4 N Y n V a0 x1 x2 x3 = some out → W p l e rm_X11_leakingHoles s m args below meth c H locs 0 0 (MQ below (bk_Q G (some (.int out)) Y V) args s 0 0 (bk_A G)) (F0 m 4 ls []) := by
  have hx := C.1
  have hb := C.2.1
  intro n
  induction n with
  | zero =>
    intro V a0 x1 x2 x3 H locs ls out hl hH hq
    exact nomatch (show (none : Option (Int32)) = some out from hq)
  | succ n ih =>
    intro V a0 x1 x2 x3 H locs ls out hl hH hq
    unfold q_X11_leakingHoles_4 at hq
    refine lv_iload_n hx hb dX11_leakingHoles_4 rfl (lv_at hl 3 rfl) ?_
    refine lv_aload_n hx hb dX11_leakingHoles_5 rfl (lv_at hl 0 rfl) ?_
    obtain ⟨hs_1, hq⟩ := bk_ck_some hq
    obtain ⟨b_2, hr_3, hq⟩ := bk_bd_some hq
    refine bk_getr C hH fl_RX11_33 hs_1 rfl hr_3 dX11_leakingHoles_6 ?_
    obtain ⟨hs_4, hq⟩ := bk_ck_some hq
    obtain ⟨b_5, hr_6, hq⟩ := bk_bd_some hq
    refine bk_getr C hH fl_RX11_121 hs_4 rfl hr_6 dX11_leakingHoles_9 ?_
    obtain ⟨hs_7, hq⟩ := bk_ck_some hq
    refine bk_geti C hH fl_RX11_125 hs_7 rfl dX11_leakingHoles_12 ?_
    refine lv_icmp_ge (tgt := 48) hx hb dX11_leakingHoles_15 (by decide) (fun hc_15 => ?_) (fun hc_15 => ?_)
    · rw [if_pos hc_15] at hq
      refine lv_iload_n hx hb dX11_leakingHoles_48 rfl (lv_at hl 2 rfl) ?_
      refine lv_aload_n hx hb dX11_leakingHoles_49 rfl (lv_at hl 0 rfl) ?_
      obtain ⟨b_8, hr_9, hq⟩ := bk_bd_some hq
      refine bk_getr C hH fl_RX11_63 hs_1 rfl hr_9 dX11_leakingHoles_50 ?_
      obtain ⟨hs_10, hq⟩ := bk_ck_some hq
      refine bk_geti C hH fl_RX11_176 hs_10 rfl dX11_leakingHoles_53 ?_
      refine lv_iconst (v := (-1)) hx hb dX11_leakingHoles_56 (by decide) ?_
      refine lv_ixor hx hb dX11_leakingHoles_57 ?_
      refine lv_iand hx hb dX11_leakingHoles_58 ?_
      cases hq
      exact bk_iret C hH dX11_leakingHoles_59
    · rw [if_neg hc_15] at hq
      refine lv_iload_n hx hb dX11_leakingHoles_18 rfl (lv_at hl 1 rfl) ?_
      refine lv_if_ne (tgt := 36) hx hb dX11_leakingHoles_19 (by decide) (fun hc_14 => ?_) (fun hc_14 => ?_)
      · rw [if_neg hc_14] at hq
        exact w_X11_leakingHoles_36 C _ ih _ _ _ _ _ _ _ _ _ (lv_sub hl [0, 1, 2, 3] rfl) hH hq
      · rw [if_pos hc_14] at hq
        refine lv_aload_n hx hb dX11_leakingHoles_22 rfl (lv_at hl 0 rfl) ?_
        refine bk_getr C hH fl_RX11_33 hs_1 rfl hr_3 dX11_leakingHoles_23 ?_
        refine bk_getr C hH fl_RX11_121 hs_4 rfl hr_6 dX11_leakingHoles_26 ?_
        refine lv_iload_n hx hb dX11_leakingHoles_29 rfl (lv_at hl 3 rfl) ?_
        obtain ⟨r_12, hr_11, hq⟩ := bk_bd_some hq
        refine bk_callV (rest := []) (As := [.int x3]) (ro := (some (.int r_12))) (Y1 := Y) (V1 := V) C hH hl.1 (c_X1_isSlow hr_11) mc_X1_isSlow mv_X1_isSlow lk_RX11_172 hs_7 rfl rfl ⟨rfl, rfl⟩ ⟨by decide, by decide⟩ rfl (Nat.le_of_ble_eq_true rfl) dX11_leakingHoles_30 ⟨by decide, by decide⟩ (fun H locs hH => ?_)
        refine lv_if_ne (tgt := 42) hx hb dX11_leakingHoles_33 (by decide) (fun hc_13 => ?_) (fun hc_13 => ?_)
        · rw [if_neg hc_13] at hq
          exact w_X11_leakingHoles_42 C _ ih _ _ _ _ _ _ _ _ _ (lv_sub hl [0, 1, 2, 3] rfl) hH hq
        · rw [if_pos hc_13] at hq
          exact w_X11_leakingHoles_36 C _ ih _ _ _ _ _ _ _ _ _ (lv_sub hl [0, 1, 2, 3] rfl) hH hq

set_option maxRecDepth 100000 in
set_option maxHeartbeats 4000000 in
theorem w_X11_leakingHoles (C : bk_C G p s m args meth c cX11_leakingHoles RX11 4 (some FieldType.int)) : ∀ (V : bk_Val) (a0 : Nat) (x1 : Int32) (H : Heap) (locs : List Loc) (ls : Array Slot) (out : Int32), lv_has ls 4 [(0, .ref a0), (1, .int x1)] → bk_H G Y V s.heap H locs → q_X11_leakingHoles N Y V a0 x1 = some out → W p l e rm_X11_leakingHoles s m args below meth c H locs 0 0 (MQ below (bk_Q G (some (.int out)) Y V) args s 0 0 (bk_A G)) (F0 m 0 ls []) := by
  have hx := C.1
  have hb := C.2.1
  intro V a0 x1 H locs ls out hl hH hq
  unfold q_X11_leakingHoles at hq
  refine lv_iconst (v := 0) hx hb dX11_leakingHoles_0 (by decide) ?_
  refine lv_istore_n (lv' := [(2, .int 0), (0, .ref a0), (1, .int x1)]) hx hb dX11_leakingHoles_1 rfl hl (by decide) rfl (fun ls hl => ?_)
  refine lv_iconst (v := 0) hx hb dX11_leakingHoles_2 (by decide) ?_
  refine lv_istore_n (lv' := [(3, .int 0), (2, .int 0), (0, .ref a0), (1, .int x1)]) hx hb dX11_leakingHoles_3 rfl hl (by decide) rfl (fun ls hl => ?_)
  exact w_X11_leakingHoles_4 C _ _ _ _ _ _ _ _ _ _ (lv_sub hl [2, 3, 1, 0] rfl) hH hq
set_option maxRecDepth 100000 in
theorem c_X11_leakingHoles {l : Launch} {G : bk_G} {N : Nat} {Y : bk_Lay} {V : bk_Val} {a0 : Nat} {x1 : Int32} {out : Int32} (hq : q_X11_leakingHoles N Y V a0 x1 = some out) : Met l yX11_leakingHoles (bk_ws yX11_leakingHoles cX11_leakingHoles 4 (some FieldType.int)) rm_X11_leakingHoles (bk_Pc G [.ref a0, .int x1] Y V) (bk_Q G (some (.int out)) Y V) 0 0 (bk_A G) :=
  bk_met (by decide) (Nat.le_of_ble_eq_true rfl) (fun p e s m args below meth c ls C hnm hH hl => w_X11_leakingHoles C _ _ _ _ _ _ _ hl hH hq)

def rm_X11_minutesTillFlat : Room := bk_rm 5 0 0 116
set_option maxRecDepth 100000 in
set_option maxHeartbeats 4000000 in
theorem w_X11_minutesTillFlat_72 (C : bk_C G p s m args meth c cX11_minutesTillFlat RX11 7 (some FieldType.int)) (k30 : bk_Val → Nat → Int32 → Int32 → Int32 → Int32 → Int32 → Option (Int32 × bk_Val)) (i30 : ∀ (V : bk_Val) (a0 : Nat) (x1 : Int32) (x2 : Int32) (x3 : Int32) (x4 : Int32) (x5 : Int32) (H : Heap) (locs : List Loc) (ls : Array Slot) (out : Int32 × bk_Val), lv_has ls 7 [(0, .ref a0), (1, .int x1), (2, .int x2), (3, .int x3), (4, .int x4), (5, .int x5)] → bk_H G Y V s.heap H locs → k30 V a0 x1 x2 x3 x4 x5 = some out → W p l e rm_X11_minutesTillFlat s m args below meth c H locs 0 0 (MQ below (bk_Q G (some (.int out.1)) Y out.2) args s 0 0 (bk_A G)) (F0 m 30 ls [])) : ∀ (V : bk_Val) (a0 : Nat) (x1 : Int32) (x2 : Int32) (x3 : Int32) (x4 : Int32) (x5 : Int32) (x6 : Int32) (H : Heap) (locs : List Loc) (ls : Array Slot) (out : Int32 × bk_Val), lv_has ls 7 [(0, .ref a0), (1, .int x1), (2, .int x2), (3, .int x3), (4, .int x4), (5, .int x5), (6, .int x6)] → bk_H G Y V s.heap H locs → q_X11_minutesTillFlat_72 N Y k30 V a0 x1 x2 x3 x4 x5 x6 = some out → W p l e rm_X11_minutesTillFlat s m args below meth c H locs 0 0 (MQ below (bk_Q G (some (.int out.1)) Y out.2) args s 0 0 (bk_A G)) (F0 m 72 ls []) := by
  have hx := C.1
  have hb := C.2.1
  intro V a0 x1 x2 x3 x4 x5 x6 H locs ls out hl hH hq
  unfold q_X11_minutesTillFlat_72 at hq
  refine lv_iload_n hx hb dX11_minutesTillFlat_72 rfl (lv_at hl 3 rfl) ?_
  refine lv_iload hx hb dX11_minutesTillFlat_73 (lv_at hl 6 rfl) ?_
  refine lv_isub hx hb dX11_minutesTillFlat_75 ?_
  refine lv_istore_n (lv' := [(3, .int (x3 - x6)), (0, .ref a0), (1, .int x1), (2, .int x2), (4, .int x4), (5, .int x5), (6, .int x6)]) hx hb dX11_minutesTillFlat_76 rfl hl (by decide) rfl (fun ls hl => ?_)
  refine lv_iload_n hx hb dX11_minutesTillFlat_77 rfl (lv_at hl 0 rfl) ?_
  refine lv_sipush (v := 10000) hx hb dX11_minutesTillFlat_78 (by decide) ?_
  refine lv_icmp_ge (tgt := 89) hx hb dX11_minutesTillFlat_81 (by decide) (fun hc_1 => ?_) (fun hc_1 => ?_)
  · rw [if_pos hc_1] at hq
    refine lv_iinc (v := (x5 + 1)) (lv' := [(5, .int (x5 + 1)), (3, .int (x3 - x6)), (0, .ref a0), (1, .int x1), (2, .int x2), (4, .int x4), (6, .int x6)]) hx hb dX11_minutesTillFlat_89 hl (k := 5) rfl rfl (by decide) rfl (fun ls hl => ?_)
    refine lv_goto (tgt := 30) hx hb dX11_minutesTillFlat_92 (by decide) ?_
    exact i30 _ _ _ _ _ _ _ _ _ _ _ (lv_sub hl [2, 3, 4, 1, 5, 0] rfl) hH hq
  · rw [if_neg hc_1] at hq
    refine lv_iload hx hb dX11_minutesTillFlat_84 (lv_at hl 5 rfl) ?_
    refine lv_iconst (v := 1) hx hb dX11_minutesTillFlat_86 (by decide) ?_
    refine lv_iadd hx hb dX11_minutesTillFlat_87 ?_
    cases hq
    exact bk_iret C hH dX11_minutesTillFlat_88

set_option maxRecDepth 100000 in
set_option maxHeartbeats 4000000 in
theorem w_X11_minutesTillFlat_30 (C : bk_C G p s m args meth c cX11_minutesTillFlat RX11 7 (some FieldType.int)) : ∀ (n : Nat), ∀ (V : bk_Val) (a0 : Nat) (x1 : Int32) (x2 : Int32) (x3 : Int32) (x4 : Int32) (x5 : Int32) (H : Heap) (locs : List Loc) (ls : Array Slot) (out : Int32 × bk_Val), lv_has ls 7 [(0, .ref a0), (1, .int x1), (2, .int x2), (3, .int x3), (4, .int x4), (5, .int x5)] → bk_H G Y V s.heap H locs → q_X11_minutesTillFlat_30 N Y n V a0 x1 x2 x3 x4 x5 = some out → W p l e rm_X11_minutesTillFlat s m args below meth c H locs 0 0 (MQ below (bk_Q G (some (.int out.1)) Y out.2) args s 0 0 (bk_A G)) (F0 m 30 ls []) := by
  have hx := C.1
  have hb := C.2.1
  intro n
  induction n with
  | zero =>
    intro V a0 x1 x2 x3 x4 x5 H locs ls out hl hH hq
    exact nomatch (show (none : Option (Int32 × bk_Val)) = some out from hq)
  | succ n ih =>
    intro V a0 x1 x2 x3 x4 x5 H locs ls out hl hH hq
    unfold q_X11_minutesTillFlat_30 at hq
    refine lv_iload hx hb dX11_minutesTillFlat_30 (lv_at hl 5 rfl) ?_
    refine lv_sipush (v := 2000) hx hb dX11_minutesTillFlat_32 (by decide) ?_
    refine lv_icmp_ge (tgt := 95) hx hb dX11_minutesTillFlat_35 (by decide) (fun hc_14 => ?_) (fun hc_14 => ?_)
    · rw [if_pos hc_14] at hq
      refine lv_iconst (v := (-1)) hx hb dX11_minutesTillFlat_95 (by decide) ?_
      cases hq
      exact bk_iret C hH dX11_minutesTillFlat_96
    · rw [if_neg hc_14] at hq
      refine lv_aload_n hx hb dX11_minutesTillFlat_38 rfl (lv_at hl 0 rfl) ?_
      obtain ⟨hs_2, hq⟩ := bk_ck_some hq
      obtain ⟨b_3, hr_4, hq⟩ := bk_bd_some hq
      refine bk_getr C hH fl_RX11_33 hs_2 rfl hr_4 dX11_minutesTillFlat_39 ?_
      refine lv_iload_n hx hb dX11_minutesTillFlat_42 rfl (lv_at hl 1 rfl) ?_
      refine lv_iload_n hx hb dX11_minutesTillFlat_43 rfl (lv_at hl 3 rfl) ?_
      refine lv_aload_n hx hb dX11_minutesTillFlat_44 rfl (lv_at hl 0 rfl) ?_
      obtain ⟨b_5, hr_6, hq⟩ := bk_bd_some hq
      refine bk_getr C hH fl_RX11_63 hs_2 rfl hr_6 dX11_minutesTillFlat_45 ?_
      obtain ⟨hs_7, hq⟩ := bk_ck_some hq
      refine bk_geti C hH fl_RX11_147 hs_7 rfl dX11_minutesTillFlat_48 ?_
      refine lv_iload hx hb dX11_minutesTillFlat_51 (lv_at hl 5 rfl) ?_
      refine lv_iadd hx hb dX11_minutesTillFlat_53 ?_
      refine lv_iload_n hx hb dX11_minutesTillFlat_54 rfl (lv_at hl 2 rfl) ?_
      obtain ⟨hs_11, hq⟩ := bk_ck_some hq
      obtain ⟨r_9, V_10, hr_8, hq⟩ := bk_bd2_some hq
      refine bk_callV (rest := []) (As := [.int x1, .int x3, .int ((bk_rI V b_5 2) + x5), .int x2]) (ro := (some (.int r_9))) (Y1 := Y) (V1 := V_10) C hH hl.1 (c_X5_goneBy hr_8) mc_X5_goneBy mv_X5_goneBy lk_RX11_185 hs_11 rfl rfl ⟨rfl, rfl⟩ ⟨by decide, by decide⟩ rfl (Nat.le_of_ble_eq_true rfl) dX11_minutesTillFlat_55 ⟨by decide, by decide⟩ (fun H locs hH => ?_)
      refine lv_istore (lv' := [(6, .int r_9), (0, .ref a0), (1, .int x1), (2, .int x2), (3, .int x3), (4, .int x4), (5, .int x5)]) hx hb dX11_minutesTillFlat_58 hl (by decide) rfl (fun ls hl => ?_)
      refine lv_iload hx hb dX11_minutesTillFlat_60 (lv_at hl 0 rfl) ?_
      refine lv_if_ne (tgt := 72) hx hb dX11_minutesTillFlat_62 (by decide) (fun hc_13 => ?_) (fun hc_13 => ?_)
      · rw [if_neg hc_13] at hq
        exact w_X11_minutesTillFlat_72 C _ ih _ _ _ _ _ _ _ _ _ _ _ _ (lv_sub hl [1, 2, 3, 4, 5, 6, 0] rfl) hH hq
      · rw [if_pos hc_13] at hq
        refine lv_iload hx hb dX11_minutesTillFlat_65 (lv_at hl 5 rfl) ?_
        refine lv_if_eq (tgt := 72) hx hb dX11_minutesTillFlat_67 (by decide) (fun hc_12 => ?_) (fun hc_12 => ?_)
        · rw [if_pos hc_12] at hq
          exact w_X11_minutesTillFlat_72 C _ ih _ _ _ _ _ _ _ _ _ _ _ _ (lv_sub hl [1, 2, 3, 4, 5, 6, 0] rfl) hH hq
        · rw [if_neg hc_12] at hq
          refine lv_iconst (v := (-1)) hx hb dX11_minutesTillFlat_70 (by decide) ?_
          cases hq
          exact bk_iret C hH dX11_minutesTillFlat_71

set_option maxRecDepth 100000 in
set_option maxHeartbeats 4000000 in
theorem w_X11_minutesTillFlat (C : bk_C G p s m args meth c cX11_minutesTillFlat RX11 7 (some FieldType.int)) : ∀ (V : bk_Val) (a0 : Nat) (x1 : Int32) (x2 : Int32) (H : Heap) (locs : List Loc) (ls : Array Slot) (out : Int32 × bk_Val), lv_has ls 7 [(0, .ref a0), (1, .int x1), (2, .int x2)] → bk_H G Y V s.heap H locs → q_X11_minutesTillFlat N Y V a0 x1 x2 = some out → W p l e rm_X11_minutesTillFlat s m args below meth c H locs 0 0 (MQ below (bk_Q G (some (.int out.1)) Y out.2) args s 0 0 (bk_A G)) (F0 m 0 ls []) := by
  have hx := C.1
  have hb := C.2.1
  intro V a0 x1 x2 H locs ls out hl hH hq
  unfold q_X11_minutesTillFlat at hq
  refine lv_aload_n hx hb dX11_minutesTillFlat_0 rfl (lv_at hl 0 rfl) ?_
  obtain ⟨hs_15, hq⟩ := bk_ck_some hq
  obtain ⟨b_16, hr_17, hq⟩ := bk_bd_some hq
  refine bk_getr C hH fl_RX11_63 hs_15 rfl hr_17 dX11_minutesTillFlat_1 ?_
  obtain ⟨hs_18, hq⟩ := bk_ck_some hq
  refine bk_geti C hH fl_RX11_144 hs_18 rfl dX11_minutesTillFlat_4 ?_
  refine lv_istore_n (lv' := [(3, .int (bk_rI V b_16 1)), (0, .ref a0), (1, .int x1), (2, .int x2)]) hx hb dX11_minutesTillFlat_7 rfl hl (by decide) rfl (fun ls hl => ?_)
  refine lv_iload_n hx hb dX11_minutesTillFlat_8 rfl (lv_at hl 0 rfl) ?_
  refine lv_sipush (v := 10000) hx hb dX11_minutesTillFlat_9 (by decide) ?_
  refine lv_icmp_ge (tgt := 17) hx hb dX11_minutesTillFlat_12 (by decide) (fun hc_24 => ?_) (fun hc_24 => ?_)
  · rw [if_pos hc_24] at hq
    refine lv_aload_n hx hb dX11_minutesTillFlat_17 rfl (lv_at hl 1 rfl) ?_
    obtain ⟨b_19, hr_20, hq⟩ := bk_bd_some hq
    refine bk_getr C hH fl_RX11_33 hs_15 rfl hr_20 dX11_minutesTillFlat_18 ?_
    refine lv_iload_n hx hb dX11_minutesTillFlat_21 rfl (lv_at hl 2 rfl) ?_
    obtain ⟨hs_23, hq⟩ := bk_ck_some hq
    obtain ⟨r_22, hr_21, hq⟩ := bk_bd_some hq
    refine bk_callV (rest := []) (As := [.int x1]) (ro := (some (.int r_22))) (Y1 := Y) (V1 := V) C hH hl.1 (c_X5_leaksAlikeEachMinute hr_21) mc_X5_leaksAlikeEachMinute mv_X5_leaksAlikeEachMinute lk_RX11_217 hs_23 rfl rfl ⟨rfl, rfl⟩ ⟨by decide, by decide⟩ rfl (Nat.le_of_ble_eq_true rfl) dX11_minutesTillFlat_22 ⟨by decide, by decide⟩ (fun H locs hH => ?_)
    refine lv_istore (lv' := [(4, .int r_22), (3, .int (bk_rI V b_16 1)), (0, .ref a0), (1, .int x1), (2, .int x2)]) hx hb dX11_minutesTillFlat_25 hl (by decide) rfl (fun ls hl => ?_)
    refine lv_iconst (v := 0) hx hb dX11_minutesTillFlat_27 (by decide) ?_
    refine lv_istore (lv' := [(5, .int 0), (4, .int r_22), (3, .int (bk_rI V b_16 1)), (0, .ref a0), (1, .int x1), (2, .int x2)]) hx hb dX11_minutesTillFlat_28 hl (by decide) rfl (fun ls hl => ?_)
    exact w_X11_minutesTillFlat_30 C _ _ _ _ _ _ _ _ _ _ _ _ (lv_sub hl [3, 4, 5, 2, 1, 0] rfl) hH hq
  · rw [if_neg hc_24] at hq
    refine lv_iconst (v := 0) hx hb dX11_minutesTillFlat_15 (by decide) ?_
    cases hq
    exact bk_iret C hH dX11_minutesTillFlat_16
set_option maxRecDepth 100000 in
theorem c_X11_minutesTillFlat {l : Launch} {G : bk_G} {N : Nat} {Y : bk_Lay} {V : bk_Val} {a0 : Nat} {x1 : Int32} {x2 : Int32} {out : Int32 × bk_Val} (hq : q_X11_minutesTillFlat N Y V a0 x1 x2 = some out) : Met l yX11_minutesTillFlat (bk_ws yX11_minutesTillFlat cX11_minutesTillFlat 7 (some FieldType.int)) rm_X11_minutesTillFlat (bk_Pc G [.ref a0, .int x1, .int x2] Y V) (bk_Q G (some (.int out.1)) Y out.2) 0 0 (bk_A G) :=
  bk_met (by decide) (Nat.le_of_ble_eq_true rfl) (fun p e s m args below meth c ls C hnm hH hl => w_X11_minutesTillFlat C _ _ _ _ _ _ _ _ hl hH hq)

def rm_X11_flat : Room := bk_rm 6 0 0 142
set_option maxRecDepth 100000 in
set_option maxHeartbeats 4000000 in
theorem w_X11_flat (C : bk_C G p s m args meth c cX11_flat RX11 2 (some FieldType.int)) : ∀ (V : bk_Val) (a0 : Nat) (x1 : Int32) (H : Heap) (locs : List Loc) (ls : Array Slot) (out : Int32 × bk_Val), lv_has ls 2 [(0, .ref a0), (1, .int x1)] → bk_H G Y V s.heap H locs → q_X11_flat N Y V a0 x1 = some out → W p l e rm_X11_flat s m args below meth c H locs 0 0 (MQ below (bk_Q G (some (.int out.1)) Y out.2) args s 0 0 (bk_A G)) (F0 m 0 ls []) := by
  have hx := C.1
  have hb := C.2.1
  intro V a0 x1 H locs ls out hl hH hq
  unfold q_X11_flat at hq
  refine lv_aload_n hx hb dX11_flat_0 rfl (lv_at hl 0 rfl) ?_
  refine lv_aload_n hx hb dX11_flat_1 rfl (lv_at hl 0 rfl) ?_
  refine lv_iload_n hx hb dX11_flat_2 rfl (lv_at hl 1 rfl) ?_
  obtain ⟨hs_3, hq⟩ := bk_ck_some hq
  obtain ⟨r_2, hr_1, hq⟩ := bk_bd_some hq
  refine bk_callV (rest := [.ref a0]) (As := [.int x1]) (ro := (some (.int r_2))) (Y1 := Y) (V1 := V) C hH hl.1 (c_X11_leakingHoles hr_1) mc_X11_leakingHoles mv_X11_leakingHoles lk_RX11_181 hs_3 rfl rfl ⟨rfl, rfl⟩ ⟨by decide, by decide⟩ rfl (Nat.le_of_ble_eq_true rfl) dX11_flat_3 ⟨by decide, by decide⟩ (fun H locs hH => ?_)
  refine lv_iload_n hx hb dX11_flat_6 rfl (lv_at hl 1 rfl) ?_
  obtain ⟨r_5, V_6, hr_4, hq⟩ := bk_bd2_some hq
  refine bk_callV (rest := []) (As := [.int r_2, .int x1]) (ro := (some (.int r_5))) (Y1 := Y) (V1 := V_6) C hH hl.1 (c_X11_minutesTillFlat hr_4) mc_X11_minutesTillFlat mv_X11_minutesTillFlat lk_RX11_207 hs_3 rfl rfl ⟨rfl, rfl⟩ ⟨by decide, by decide⟩ rfl (Nat.le_of_ble_eq_true rfl) dX11_flat_7 ⟨by decide, by decide⟩ (fun H locs hH => ?_)
  cases hq
  exact bk_iret C hH dX11_flat_10
set_option maxRecDepth 100000 in
theorem c_X11_flat {l : Launch} {G : bk_G} {N : Nat} {Y : bk_Lay} {V : bk_Val} {a0 : Nat} {x1 : Int32} {out : Int32 × bk_Val} (hq : q_X11_flat N Y V a0 x1 = some out) : Met l yX11_flat (bk_ws yX11_flat cX11_flat 2 (some FieldType.int)) rm_X11_flat (bk_Pc G [.ref a0, .int x1] Y V) (bk_Q G (some (.int out.1)) Y out.2) 0 0 (bk_A G) :=
  bk_met (by decide) (Nat.le_of_ble_eq_true rfl) (fun p e s m args below meth c ls C hnm hH hl => w_X11_flat C _ _ _ _ _ _ _ hl hH hq)

def rm_X11_needPlace : Room := bk_rm 9 1 6 220
set_option maxRecDepth 100000 in
set_option maxHeartbeats 4000000 in
theorem w_X11_needPlace (C : bk_C G p s m args meth c cX11_needPlace RX11 2 (none : Option FieldType)) (hst : l.stackTraces = false) (hT9 : ∀ x ∈ c.exceptionTable.toList, False) : ∀ (V : bk_Val) (a0 : Nat) (x1 : Int32) (H : Heap) (locs : List Loc) (ls : Array Slot) (out : Nat ⊕ (Unit)), lv_has ls 2 [(0, .ref a0), (1, .int x1)] → bk_H G Y V s.heap H locs → q_X11_needPlace N Y V a0 x1 = some out → W p l e rm_X11_needPlace s m args below meth c H locs 0 0 (vx_MQ below (bk_QX (fun (o : Unit) => bk_Q G none Y V) out) (bk_XC G Y V out) args s 1 6 (bk_A G)) (F0 m 0 ls []) := by
  have hx := C.1
  have hb := C.2.1
  intro V a0 x1 H locs ls out hl hH hq
  unfold q_X11_needPlace at hq
  refine lv_iload_n hx hb dX11_needPlace_0 rfl (lv_at hl 1 rfl) ?_
  refine lv_iconst (v := 0) hx hb dX11_needPlace_1 (by decide) ?_
  refine lv_aload_n hx hb dX11_needPlace_2 rfl (lv_at hl 0 rfl) ?_
  obtain ⟨hs_1, hq⟩ := bk_ck_some hq
  obtain ⟨b_2, hr_3, hq⟩ := bk_bd_some hq
  refine bk_getr C hH fl_RX11_63 hs_1 rfl hr_3 dX11_needPlace_3 ?_
  obtain ⟨hs_4, hq⟩ := bk_ck_some hq
  obtain ⟨b_5, hr_6, hq⟩ := bk_bd_some hq
  refine bk_getr C hH fl_RX11_193 hs_4 rfl hr_6 dX11_needPlace_6 ?_
  obtain ⟨ha_7, hq⟩ := bk_ck_some hq
  refine bk_alen C hH (bk_arr ha_7) (by decide) dX11_needPlace_9 ?_
  refine lv_iconst (v := 1) hx hb dX11_needPlace_10 (by decide) ?_
  refine lv_isub hx hb dX11_needPlace_11 ?_
  obtain ⟨r_9, hr_8, hq⟩ := bk_bd_some hq
  refine bk_callS (rest := []) (As := [.int x1, .int 0, .int ((nI (bk_sh Y b_5).2) - 1)]) (ro := (some (.int r_9))) (Y1 := Y) (V1 := V) C hH hl.1 (c_X11_isWithin hr_8) mc_X11_isWithin st_X11_isWithin lk_RX11_78 rfl ⟨rfl, rfl⟩ ⟨by decide, by decide⟩ rfl (Nat.le_of_ble_eq_true rfl) dX11_needPlace_12 ⟨by decide, by decide⟩ (fun H locs hH => ?_)
  rcases bk_bdx_cases hq with ⟨x9_11, hr_10, ho_12⟩ | ⟨u15, hr_10, hq⟩
  · exact bk_callSt (rest := []) (As := [.int r_9]) (e9 := x9_11) C hT9 hH hl.1 (c_X11_needElement hst hr_10) ho_12 mc_X11_needElement st_X11_needElement ml_RX11_214 rfl ⟨rfl, rfl⟩ ⟨by decide, by decide⟩ rfl (Nat.le_of_ble_eq_true rfl) dX11_needPlace_15 ⟨by decide, by decide⟩ (by decide) (by decide)
  · refine bk_callSr (rest := []) (As := [.int r_9]) (o1 := u15) (ro := none) (Y1 := Y) (V1 := V) rfl C hH hl.1 (c_X11_needElement hst hr_10) mc_X11_needElement st_X11_needElement ml_RX11_214 rfl ⟨rfl, rfl⟩ ⟨by decide, by decide⟩ rfl (Nat.le_of_ble_eq_true rfl) dX11_needPlace_15 ⟨by decide, by decide⟩ (fun H locs hH => ?_)
    refine W.widen (k := 1) (n := 6) (by decide) (by decide) ?_
    refine vx_ret ?_
    cases hq
    exact bk_vret C hH dX11_needPlace_18
set_option maxRecDepth 100000 in
theorem c_X11_needPlace {l : Launch} {G : bk_G} {N : Nat} {Y : bk_Lay} {V : bk_Val} (hst : l.stackTraces = false) {a0 : Nat} {x1 : Int32} {out : Nat ⊕ (Unit)} (hq : q_X11_needPlace N Y V a0 x1 = some out) : vx_Met l yX11_needPlace (bk_ws yX11_needPlace cX11_needPlace 2 (none : Option FieldType)) rm_X11_needPlace (bk_Pc G [.ref a0, .int x1] Y V) (bk_QX (fun (o : Unit) => bk_Q G none Y V) out) (bk_XC G Y V out) 1 6 (bk_A G) :=
  bk_metx (by decide) (Nat.le_of_ble_eq_true rfl) (fun p e s m args below meth c ls C hT9 hH hl => w_X11_needPlace C hst hT9 _ _ _ _ _ _ _ hl hH hq)

def rm_X11_weight : Room := bk_rm 10 1 6 241
set_option maxRecDepth 100000 in
set_option maxHeartbeats 4000000 in
theorem w_X11_weight (C : bk_C G p s m args meth c cX11_weight RX11 2 (some FieldType.long)) (hst : l.stackTraces = false) (hT9 : ∀ x ∈ c.exceptionTable.toList, False) : ∀ (V : bk_Val) (a0 : Nat) (x1 : Int32) (H : Heap) (locs : List Loc) (ls : Array Slot) (out : Nat ⊕ (Int64)), lv_has ls 2 [(0, .ref a0), (1, .int x1)] → bk_H G Y V s.heap H locs → q_X11_weight N Y V a0 x1 = some out → W p l e rm_X11_weight s m args below meth c H locs 0 0 (vx_MQ below (bk_QX (fun (o : Int64) => bk_Q G (some (.long o)) Y V) out) (bk_XC G Y V out) args s 1 6 (bk_A G)) (F0 m 0 ls []) := by
  have hx := C.1
  have hb := C.2.1
  intro V a0 x1 H locs ls out hl hH hq
  unfold q_X11_weight at hq
  refine lv_aload_n hx hb dX11_weight_0 rfl (lv_at hl 0 rfl) ?_
  refine lv_iload_n hx hb dX11_weight_1 rfl (lv_at hl 1 rfl) ?_
  obtain ⟨hs_2, hq⟩ := bk_ck_some hq
  rcases bk_bdx_cases hq with ⟨x9_3, hr_1, ho_4⟩ | ⟨u2, hr_1, hq⟩
  · exact bk_callVt (rest := []) (As := [.int x1]) (e9 := x9_3) C hT9 hH hl.1 (c_X11_needPlace hst hr_1) ho_4 mc_X11_needPlace mv_X11_needPlace ml_RX11_261 hs_2 rfl rfl ⟨rfl, rfl⟩ ⟨by decide, by decide⟩ rfl (Nat.le_of_ble_eq_true rfl) dX11_weight_2 ⟨by decide, by decide⟩ (by decide) (by decide)
  · refine bk_callVr (rest := []) (As := [.int x1]) (o1 := u2) (ro := none) (Y1 := Y) (V1 := V) rfl C hH hl.1 (c_X11_needPlace hst hr_1) mc_X11_needPlace mv_X11_needPlace ml_RX11_261 hs_2 rfl rfl ⟨rfl, rfl⟩ ⟨by decide, by decide⟩ rfl (Nat.le_of_ble_eq_true rfl) dX11_weight_2 ⟨by decide, by decide⟩ (fun H locs hH => ?_)
    refine W.widen (k := 1) (n := 6) (by decide) (by decide) ?_
    refine lv_aload_n hx hb dX11_weight_5 rfl (lv_at hl 0 rfl) ?_
    obtain ⟨b_5, hr_6, hq⟩ := bk_bd_some hq
    refine bk_getr C hH fl_RX11_63 hs_2 rfl hr_6 dX11_weight_6 ?_
    obtain ⟨hs_7, hq⟩ := bk_ck_some hq
    obtain ⟨b_8, hr_9, hq⟩ := bk_bd_some hq
    refine bk_getr C hH fl_RX11_193 hs_7 rfl hr_9 dX11_weight_9 ?_
    refine lv_iload_n hx hb dX11_weight_12 rfl (lv_at hl 1 rfl) ?_
    obtain ⟨ha_10, hq⟩ := bk_ck_some hq
    obtain ⟨hi_11, hq⟩ := bk_ck_some hq
    refine bk_lald C hH (bk_arr ha_10) (bk_in_vp hi_11) dX11_weight_13 ?_
    refine vx_ret ?_
    cases hq
    exact bk_lret C hH dX11_weight_14
set_option maxRecDepth 100000 in
theorem c_X11_weight {l : Launch} {G : bk_G} {N : Nat} {Y : bk_Lay} {V : bk_Val} (hst : l.stackTraces = false) {a0 : Nat} {x1 : Int32} {out : Nat ⊕ (Int64)} (hq : q_X11_weight N Y V a0 x1 = some out) : vx_Met l yX11_weight (bk_ws yX11_weight cX11_weight 2 (some FieldType.long)) rm_X11_weight (bk_Pc G [.ref a0, .int x1] Y V) (bk_QX (fun (o : Int64) => bk_Q G (some (.long o)) Y V) out) (bk_XC G Y V out) 1 6 (bk_A G) :=
  bk_metx (by decide) (Nat.le_of_ble_eq_true rfl) (fun p e s m args below meth c ls C hT9 hH hl => w_X11_weight C hst hT9 _ _ _ _ _ _ _ hl hH hq)

def rm_X11_needArgument : Room := bk_rm 8 1 6 200
set_option maxRecDepth 100000 in
set_option maxHeartbeats 4000000 in
theorem w_X11_needArgument (C : bk_C G p s m args meth c cX11_needArgument RX11 1 (none : Option FieldType)) (hst : l.stackTraces = false) (hT9 : ∀ x ∈ c.exceptionTable.toList, False) : ∀ (V : bk_Val) (x0 : Int32) (H : Heap) (locs : List Loc) (ls : Array Slot) (out : Nat ⊕ (Unit)), lv_has ls 1 [(0, .int x0)] → bk_H G Y V s.heap H locs → q_X11_needArgument N Y V x0 = some out → W p l e rm_X11_needArgument s m args below meth c H locs 0 0 (vx_MQ below (bk_QX (fun (o : Unit) => bk_Q G none Y V) out) (bk_XC G Y V out) args s 1 6 (bk_A G)) (F0 m 0 ls []) := by
  have hx := C.1
  have hb := C.2.1
  intro V x0 H locs ls out hl hH hq
  unfold q_X11_needArgument at hq
  refine lv_iload_n hx hb dX11_needArgument_0 rfl (lv_at hl 0 rfl) ?_
  refine lv_if_ne (tgt := 15) hx hb dX11_needArgument_1 (by decide) (fun hc_1 => ?_) (fun hc_1 => ?_)
  · rw [if_neg hc_1] at hq
    refine W.widen (k := 1) (n := 6) (by decide) (by decide) ?_
    refine vx_ret ?_
    cases hq
    exact bk_vret C hH dX11_needArgument_15
  · rw [if_pos hc_1] at hq
    cases hq
    exact bk_throwX (i := 0) (e9 := 2) (tx := "a number is not as the document tells") C hst hT9 hH hl.1 rfl rfl x0_2 x1_2 x2_2 x5_2 cl_RX11_397 in_exc2 cx_2 lx_2 (by decide) (by decide) tw1_401 tw2_401 tw3_401_397 dX11_needArgument_4 dX11_needArgument_7 (Or.inr ⟨rfl, dX11_needArgument_8⟩) dX11_needArgument_11 dX11_needArgument_14 (by decide) (by decide) (by decide) (by decide) (by decide) (by decide)
set_option maxRecDepth 100000 in
theorem c_X11_needArgument {l : Launch} {G : bk_G} {N : Nat} {Y : bk_Lay} {V : bk_Val} (hst : l.stackTraces = false) {x0 : Int32} {out : Nat ⊕ (Unit)} (hq : q_X11_needArgument N Y V x0 = some out) : vx_Met l yX11_needArgument (bk_ws yX11_needArgument cX11_needArgument 1 (none : Option FieldType)) rm_X11_needArgument (bk_Pc G [.int x0] Y V) (bk_QX (fun (o : Unit) => bk_Q G none Y V) out) (bk_XC G Y V out) 1 6 (bk_A G) :=
  bk_metx (by decide) (Nat.le_of_ble_eq_true rfl) (fun p e s m args below meth c ls C hT9 hH hl => w_X11_needArgument C hst hT9 _ _ _ _ _ _ hl hH hq)

def rm_X11_setOut : Room := bk_rm 3 0 0 84
set_option maxRecDepth 100000 in
set_option maxHeartbeats 4000000 in
theorem w_X11_setOut (C : bk_C G p s m args meth c cX11_setOut RX11 1 (none : Option FieldType)) : ∀ (Y : bk_Lay) (V : bk_Val) (a0 : Nat) (H : Heap) (locs : List Loc) (ls : Array Slot) (out : bk_Lay × bk_Val), lv_has ls 1 [(0, .ref a0)] → bk_H G Y V s.heap H locs → q_X11_setOut N Y V a0 = some out → W p l e rm_X11_setOut s m args below meth c H locs 0 0 (MQ below (bk_Q G none out.1 out.2) args s 0 0 (bk_A G)) (F0 m 0 ls []) := by
  have hx := C.1
  have hb := C.2.1
  intro Y V a0 H locs ls out hl hH hq
  unfold q_X11_setOut at hq
  refine lv_aload_n hx hb dX11_setOut_0 rfl (lv_at hl 0 rfl) ?_
  obtain ⟨hs_1, hq⟩ := bk_ck_some hq
  obtain ⟨b_2, hr_3, hq⟩ := bk_bd_some hq
  refine bk_getr C hH fl_RX11_19 hs_1 rfl hr_3 dX11_setOut_1 ?_
  obtain ⟨hs_4, hq⟩ := bk_ck_some hq
  refine bk_geti C hH fl_RX11_319 hs_4 rfl dX11_setOut_4 ?_
  refine lv_if_ne (tgt := 28) hx hb dX11_setOut_7 (by decide) (fun hc_15 => ?_) (fun hc_15 => ?_)
  · rw [if_neg hc_15] at hq
    cases hq
    exact bk_vret C hH dX11_setOut_28
  · rw [if_pos hc_15] at hq
    refine lv_aload_n hx hb dX11_setOut_10 rfl (lv_at hl 0 rfl) ?_
    refine bk_getr C hH fl_RX11_19 hs_1 rfl hr_3 dX11_setOut_11 ?_
    refine lv_aload_n hx hb dX11_setOut_14 rfl (lv_at hl 0 rfl) ?_
    obtain ⟨b_5, hr_6, hq⟩ := bk_bd_some hq
    refine bk_getr C hH fl_RX11_33 hs_1 rfl hr_6 dX11_setOut_15 ?_
    refine lv_aload_n hx hb dX11_setOut_18 rfl (lv_at hl 0 rfl) ?_
    obtain ⟨b_7, hr_8, hq⟩ := bk_bd_some hq
    refine bk_getr C hH fl_RX11_63 hs_1 rfl hr_8 dX11_setOut_19 ?_
    obtain ⟨hs_9, hq⟩ := bk_ck_some hq
    obtain ⟨b_10, hr_11, hq⟩ := bk_bd_some hq
    refine bk_getr C hH fl_RX11_193 hs_9 rfl hr_11 dX11_setOut_22 ?_
    obtain ⟨Y_13, V_14, hr_12, hq⟩ := bk_bd2_some hq
    refine bk_callV (rest := []) (As := [.ref b_5, .ref b_10]) (ro := none) (Y1 := Y_13) (V1 := V_14) C hH hl.1 (c_X3_begin hr_12) mc_X3_begin mv_X3_begin lk_RX11_322 hs_4 rfl rfl ⟨rfl, rfl⟩ ⟨by decide, by decide⟩ rfl (Nat.le_of_ble_eq_true rfl) dX11_setOut_25 ⟨by decide, by decide⟩ (fun H locs hH => ?_)
    cases hq
    exact bk_vret C hH dX11_setOut_28
set_option maxRecDepth 100000 in
theorem c_X11_setOut {l : Launch} {G : bk_G} {N : Nat} {Y : bk_Lay} {V : bk_Val} {a0 : Nat} {out : bk_Lay × bk_Val} (hq : q_X11_setOut N Y V a0 = some out) : Met l yX11_setOut (bk_ws yX11_setOut cX11_setOut 1 (none : Option FieldType)) rm_X11_setOut (bk_Pc G [.ref a0] Y V) (bk_Q G none out.1 out.2) 0 0 (bk_A G) :=
  bk_met (by decide) (Nat.le_of_ble_eq_true rfl) (fun p e s m args below meth c ls C hnm hH hl => w_X11_setOut C _ _ _ _ _ _ _ hl hH hq)

def rm_X11_grownSeed : Room := bk_rm 0 0 0 0
set_option maxRecDepth 100000 in
set_option maxHeartbeats 4000000 in
theorem w_X11_grownSeed (C : bk_C G p s m args meth c cX11_grownSeed RX11 1 (some FieldType.int)) : ∀ (V : bk_Val) (x0 : Int32) (H : Heap) (locs : List Loc) (ls : Array Slot) (out : Int32), lv_has ls 1 [(0, .int x0)] → bk_H G Y V s.heap H locs → q_X11_grownSeed N Y V x0 = some out → W p l e rm_X11_grownSeed s m args below meth c H locs 0 0 (MQ below (bk_Q G (some (.int out)) Y V) args s 0 0 (bk_A G)) (F0 m 0 ls []) := by
  have hx := C.1
  have hb := C.2.1
  intro V x0 H locs ls out hl hH hq
  unfold q_X11_grownSeed at hq
  refine lv_iload_n hx hb dX11_grownSeed_0 rfl (lv_at hl 0 rfl) ?_
  refine bk_ldcw C kc_RX11_402 dX11_grownSeed_1 ?_
  refine lv_imul hx hb dX11_grownSeed_4 ?_
  refine lv_sipush (v := 12345) hx hb dX11_grownSeed_5 (by decide) ?_
  refine lv_iadd hx hb dX11_grownSeed_8 ?_
  cases hq
  exact bk_iret C hH dX11_grownSeed_9
set_option maxRecDepth 100000 in
theorem c_X11_grownSeed {l : Launch} {G : bk_G} {N : Nat} {Y : bk_Lay} {V : bk_Val} {x0 : Int32} {out : Int32} (hq : q_X11_grownSeed N Y V x0 = some out) : Met l yX11_grownSeed (bk_ws yX11_grownSeed cX11_grownSeed 1 (some FieldType.int)) rm_X11_grownSeed (bk_Pc G [.int x0] Y V) (bk_Q G (some (.int out)) Y V) 0 0 (bk_A G) :=
  bk_met (by decide) (Nat.le_of_ble_eq_true rfl) (fun p e s m args below meth c ls C hnm hH hl => w_X11_grownSeed C _ _ _ _ _ _ hl hH hq)

def rm_X11_drawOfHundred : Room := bk_rm 0 0 0 0
set_option maxRecDepth 100000 in
set_option maxHeartbeats 4000000 in
theorem w_X11_drawOfHundred (C : bk_C G p s m args meth c cX11_drawOfHundred RX11 1 (some FieldType.int)) : ∀ (V : bk_Val) (x0 : Int32) (H : Heap) (locs : List Loc) (ls : Array Slot) (out : Int32), lv_has ls 1 [(0, .int x0)] → bk_H G Y V s.heap H locs → q_X11_drawOfHundred N Y V x0 = some out → W p l e rm_X11_drawOfHundred s m args below meth c H locs 0 0 (MQ below (bk_Q G (some (.int out)) Y V) args s 0 0 (bk_A G)) (F0 m 0 ls []) := by
  have hx := C.1
  have hb := C.2.1
  intro V x0 H locs ls out hl hH hq
  unfold q_X11_drawOfHundred at hq
  refine lv_iload_n hx hb dX11_drawOfHundred_0 rfl (lv_at hl 0 rfl) ?_
  refine lv_bipush (v := 16) hx hb dX11_drawOfHundred_1 (by decide) ?_
  refine bk_iushr hx hb dX11_drawOfHundred_3 ?_
  refine lv_sipush (v := 32767) hx hb dX11_drawOfHundred_4 (by decide) ?_
  refine lv_iand hx hb dX11_drawOfHundred_7 ?_
  refine lv_bipush (v := 100) hx hb dX11_drawOfHundred_8 (by decide) ?_
  refine bk_irem hx hb dX11_drawOfHundred_10 (by decide) ?_
  cases hq
  exact bk_iret C hH dX11_drawOfHundred_11
set_option maxRecDepth 100000 in
theorem c_X11_drawOfHundred {l : Launch} {G : bk_G} {N : Nat} {Y : bk_Lay} {V : bk_Val} {x0 : Int32} {out : Int32} (hq : q_X11_drawOfHundred N Y V x0 = some out) : Met l yX11_drawOfHundred (bk_ws yX11_drawOfHundred cX11_drawOfHundred 1 (some FieldType.int)) rm_X11_drawOfHundred (bk_Pc G [.int x0] Y V) (bk_Q G (some (.int out)) Y V) 0 0 (bk_A G) :=
  bk_met (by decide) (Nat.le_of_ble_eq_true rfl) (fun p e s m args below meth c ls C hnm hH hl => w_X11_drawOfHundred C _ _ _ _ _ _ hl hH hq)

def rm_X11_findBy : Room := bk_rm 5 0 0 113
set_option maxRecDepth 100000 in
set_option maxHeartbeats 4000000 in
theorem w_X11_findBy_142 (C : bk_C G p s m args meth c cX11_findBy RX11 8 (some FieldType.int)) (k59 : bk_Lay → bk_Val → Nat → Int32 → Int32 → Int32 → Int32 → Int32 → Int32 → Option (Int32 × bk_Lay × bk_Val)) (i59 : ∀ (Y : bk_Lay) (V : bk_Val) (a0 : Nat) (x2 : Int32) (x3 : Int32) (x4 : Int32) (x5 : Int32) (x6 : Int32) (x7 : Int32) (H : Heap) (locs : List Loc) (ls : Array Slot) (out : Int32 × bk_Lay × bk_Val), lv_has ls 8 [(0, .ref a0), (2, .int x2), (3, .int x3), (4, .int x4), (5, .int x5), (6, .int x6), (7, .int x7)] → bk_H G Y V s.heap H locs → k59 Y V a0 x2 x3 x4 x5 x6 x7 = some out → W p l e rm_X11_findBy s m args below meth c H locs 0 0 (MQ below (bk_Q G (some (.int out.1)) out.2.1 out.2.2) args s 0 0 (bk_A G)) (F0 m 59 ls [])) : ∀ (Y : bk_Lay) (V : bk_Val) (a0 : Nat) (x2 : Int32) (x3 : Int32) (x4 : Int32) (x5 : Int32) (x6 : Int32) (x7 : Int32) (H : Heap) (locs : List Loc) (ls : Array Slot) (out : Int32 × bk_Lay × bk_Val), lv_has ls 8 [(0, .ref a0), (2, .int x2), (3, .int x3), (4, .int x4), (5, .int x5), (6, .int x6), (7, .int x7)] → bk_H G Y V s.heap H locs → q_X11_findBy_142 N k59 Y V a0 x2 x3 x4 x5 x6 x7 = some out → W p l e rm_X11_findBy s m args below meth c H locs 0 0 (MQ below (bk_Q G (some (.int out.1)) out.2.1 out.2.2) args s 0 0 (bk_A G)) (F0 m 142 ls []) := by
  have hx := C.1
  have hb := C.2.1
  intro Y V a0 x2 x3 x4 x5 x6 x7 H locs ls out hl hH hq
  unfold q_X11_findBy_142 at hq
  refine lv_iinc (v := (x7 + 1)) (lv' := [(7, .int (x7 + 1)), (0, .ref a0), (2, .int x2), (3, .int x3), (4, .int x4), (5, .int x5), (6, .int x6)]) hx hb dX11_findBy_142 hl (k := 6) rfl rfl (by decide) rfl (fun ls hl => ?_)
  refine lv_goto (tgt := 59) hx hb dX11_findBy_145 (by decide) ?_
  exact i59 _ _ _ _ _ _ _ _ _ _ _ _ _ (lv_sub hl [1, 2, 3, 4, 5, 6, 0] rfl) hH hq

set_option maxRecDepth 100000 in
set_option maxHeartbeats 4000000 in
theorem w_X11_findBy_59 (C : bk_C G p s m args meth c cX11_findBy RX11 8 (some FieldType.int)) (k20 : bk_Lay → bk_Val → Nat → Int32 → Int32 → Int32 → Int32 → Option (Int32 × bk_Lay × bk_Val)) (i20 : ∀ (Y : bk_Lay) (V : bk_Val) (a0 : Nat) (x2 : Int32) (x3 : Int32) (x4 : Int32) (x5 : Int32) (H : Heap) (locs : List Loc) (ls : Array Slot) (out : Int32 × bk_Lay × bk_Val), lv_has ls 8 [(0, .ref a0), (2, .int x2), (3, .int x3), (4, .int x4), (5, .int x5)] → bk_H G Y V s.heap H locs → k20 Y V a0 x2 x3 x4 x5 = some out → W p l e rm_X11_findBy s m args below meth c H locs 0 0 (MQ below (bk_Q G (some (.int out.1)) out.2.1 out.2.2) args s 0 0 (bk_A G)) (F0 m 20 ls [])) : ∀ (n : Nat), ∀ (Y : bk_Lay) (V : bk_Val) (a0 : Nat) (x2 : Int32) (x3 : Int32) (x4 : Int32) (x5 : Int32) (x6 : Int32) (x7 : Int32) (H : Heap) (locs : List Loc) (ls : Array Slot) (out : Int32 × bk_Lay × bk_Val), lv_has ls 8 [(0, .ref a0), (2, .int x2), (3, .int x3), (4, .int x4), (5, .int x5), (6, .int x6), (7, .int x7)] → bk_H G Y V s.heap H locs → q_X11_findBy_59 N k20 n Y V a0 x2 x3 x4 x5 x6 x7 = some out → W p l e rm_X11_findBy s m args below meth c H locs 0 0 (MQ below (bk_Q G (some (.int out.1)) out.2.1 out.2.2) args s 0 0 (bk_A G)) (F0 m 59 ls []) := by
  have hx := C.1
  have hb := C.2.1
  intro n
  induction n with
  | zero =>
    intro Y V a0 x2 x3 x4 x5 x6 x7 H locs ls out hl hH hq
    exact nomatch (show (none : Option (Int32 × bk_Lay × bk_Val)) = some out from hq)
  | succ n ih =>
    intro Y V a0 x2 x3 x4 x5 x6 x7 H locs ls out hl hH hq
    unfold q_X11_findBy_59 at hq
    refine lv_iload hx hb dX11_findBy_59 (lv_at hl 6 rfl) ?_
    refine lv_aload_n hx hb dX11_findBy_61 rfl (lv_at hl 0 rfl) ?_
    obtain ⟨hs_1, hq⟩ := bk_ck_some hq
    obtain ⟨b_2, hr_3, hq⟩ := bk_bd_some hq
    refine bk_getr C hH fl_RX11_33 hs_1 rfl hr_3 dX11_findBy_62 ?_
    obtain ⟨hs_4, hq⟩ := bk_ck_some hq
    obtain ⟨b_5, hr_6, hq⟩ := bk_bd_some hq
    refine bk_getr C hH fl_RX11_121 hs_4 rfl hr_6 dX11_findBy_65 ?_
    obtain ⟨hs_7, hq⟩ := bk_ck_some hq
    refine bk_geti C hH fl_RX11_125 hs_7 rfl dX11_findBy_68 ?_
    refine lv_icmp_ge (tgt := 148) hx hb dX11_findBy_71 (by decide) (fun hc_23 => ?_) (fun hc_23 => ?_)
    · rw [if_pos hc_23] at hq
      refine lv_iinc (v := (x5 + 1)) (lv' := [(5, .int (x5 + 1)), (0, .ref a0), (2, .int x2), (3, .int x3), (4, .int x4), (6, .int x6), (7, .int x7)]) hx hb dX11_findBy_148 hl (k := 4) rfl rfl (by decide) rfl (fun ls hl => ?_)
      refine lv_goto (tgt := 20) hx hb dX11_findBy_151 (by decide) ?_
      exact i20 _ _ _ _ _ _ _ _ _ _ _ (lv_sub hl [1, 2, 3, 4, 0] rfl) hH hq
    · rw [if_neg hc_23] at hq
      refine lv_iload_n hx hb dX11_findBy_74 rfl (lv_at hl 1 rfl) ?_
      refine lv_iload hx hb dX11_findBy_75 (lv_at hl 6 rfl) ?_
      refine bk_ishr hx hb dX11_findBy_77 ?_
      refine lv_iconst (v := 1) hx hb dX11_findBy_78 (by decide) ?_
      refine lv_iand hx hb dX11_findBy_79 ?_
      refine lv_iconst (v := 1) hx hb dX11_findBy_80 (by decide) ?_
      refine lv_icmp_ne (tgt := 142) hx hb dX11_findBy_81 (by decide) (fun hc_22 => ?_) (fun hc_22 => ?_)
      · rw [if_neg hc_22] at hq
        exact w_X11_findBy_142 C _ ih _ _ _ _ _ _ _ _ _ _ _ _ _ (lv_sub hl [0, 1, 2, 3, 4, 5, 6] rfl) hH hq
      · rw [if_pos hc_22] at hq
        refine lv_aload_n hx hb dX11_findBy_84 rfl (lv_at hl 0 rfl) ?_
        refine bk_getr C hH fl_RX11_33 hs_1 rfl hr_3 dX11_findBy_85 ?_
        refine lv_iload hx hb dX11_findBy_88 (lv_at hl 5 rfl) ?_
        refine lv_aload_n hx hb dX11_findBy_90 rfl (lv_at hl 0 rfl) ?_
        refine bk_getr C hH fl_RX11_33 hs_1 rfl hr_3 dX11_findBy_91 ?_
        refine bk_getr C hH fl_RX11_121 hs_4 rfl hr_6 dX11_findBy_94 ?_
        obtain ⟨b_8, hr_9, hq⟩ := bk_bd_some hq
        refine bk_getr C hH fl_RX11_163 hs_7 rfl hr_9 dX11_findBy_97 ?_
        refine lv_iload hx hb dX11_findBy_100 (lv_at hl 6 rfl) ?_
        obtain ⟨ha_10, hq⟩ := bk_ck_some hq
        obtain ⟨hi_11, hq⟩ := bk_ck_some hq
        refine bk_iald C hH (bk_arr ha_10) (bk_in_vp hi_11) dX11_findBy_102 ?_
        obtain ⟨r_13, hr_12, hq⟩ := bk_bd_some hq
        refine bk_callV (rest := []) (As := [.int x6, .int (bk_rI V b_8 x7.toNatClampNeg)]) (ro := (some (.int r_13))) (Y1 := Y) (V1 := V) C hH hl.1 (c_X5_looksAt hr_12) mc_X5_looksAt mv_X5_looksAt lk_RX11_329 hs_4 rfl rfl ⟨rfl, rfl⟩ ⟨by decide, by decide⟩ rfl (Nat.le_of_ble_eq_true rfl) dX11_findBy_103 ⟨by decide, by decide⟩ (fun H locs hH => ?_)
        refine lv_if_eq (tgt := 142) hx hb dX11_findBy_106 (by decide) (fun hc_21 => ?_) (fun hc_21 => ?_)
        · rw [if_pos hc_21] at hq
          exact w_X11_findBy_142 C _ ih _ _ _ _ _ _ _ _ _ _ _ _ _ (lv_sub hl [0, 1, 2, 3, 4, 5, 6] rfl) hH hq
        · rw [if_neg hc_21] at hq
          refine lv_iload hx hb dX11_findBy_109 (lv_at hl 3 rfl) ?_
          obtain ⟨r_15, hr_14, hq⟩ := bk_bd_some hq
          refine bk_callS (rest := []) (As := [.int x4]) (ro := (some (.int r_15))) (Y1 := Y) (V1 := V) C hH hl.1 (c_X11_grownSeed hr_14) mc_X11_grownSeed st_X11_grownSeed lk_RX11_333 rfl ⟨rfl, rfl⟩ ⟨by decide, by decide⟩ rfl (Nat.le_of_ble_eq_true rfl) dX11_findBy_111 ⟨by decide, by decide⟩ (fun H locs hH => ?_)
          refine lv_istore (lv' := [(4, .int r_15), (0, .ref a0), (2, .int x2), (3, .int x3), (5, .int x5), (6, .int x6), (7, .int x7)]) hx hb dX11_findBy_114 hl (by decide) rfl (fun ls hl => ?_)
          refine lv_iload hx hb dX11_findBy_116 (lv_at hl 0 rfl) ?_
          obtain ⟨r_17, hr_16, hq⟩ := bk_bd_some hq
          refine bk_callS (rest := []) (As := [.int r_15]) (ro := (some (.int r_17))) (Y1 := Y) (V1 := V) C hH hl.1 (c_X11_drawOfHundred hr_16) mc_X11_drawOfHundred st_X11_drawOfHundred lk_RX11_336 rfl ⟨rfl, rfl⟩ ⟨by decide, by decide⟩ rfl (Nat.le_of_ble_eq_true rfl) dX11_findBy_118 ⟨by decide, by decide⟩ (fun H locs hH => ?_)
          refine lv_aload_n hx hb dX11_findBy_121 rfl (lv_at hl 1 rfl) ?_
          refine bk_getr C hH fl_RX11_33 hs_1 rfl hr_3 dX11_findBy_122 ?_
          obtain ⟨r_19, hr_18, hq⟩ := bk_bd_some hq
          refine bk_callV (rest := [.int r_17]) (As := []) (ro := (some (.int r_19))) (Y1 := Y) (V1 := V) C hH hl.1 (c_X5_miss hr_18) mc_X5_miss mv_X5_miss lk_RX11_235 hs_4 rfl rfl ⟨rfl, rfl⟩ ⟨by decide, by decide⟩ rfl (Nat.le_of_ble_eq_true rfl) dX11_findBy_125 ⟨by decide, by decide⟩ (fun H locs hH => ?_)
          refine lv_icmp_lt (tgt := 142) hx hb dX11_findBy_128 (by decide) (fun hc_20 => ?_) (fun hc_20 => ?_)
          · rw [if_pos hc_20] at hq
            exact w_X11_findBy_142 C _ ih _ _ _ _ _ _ _ _ _ _ _ _ _ (lv_sub hl [1, 2, 3, 0, 4, 5, 6] rfl) hH hq
          · rw [if_neg hc_20] at hq
            refine lv_iload hx hb dX11_findBy_131 (lv_at hl 4 rfl) ?_
            refine lv_iconst (v := 1) hx hb dX11_findBy_133 (by decide) ?_
            refine lv_iadd hx hb dX11_findBy_134 ?_
            refine lv_bipush (v := 6) hx hb dX11_findBy_135 (by decide) ?_
            refine lv_imul hx hb dX11_findBy_137 ?_
            refine lv_iload hx hb dX11_findBy_138 (lv_at hl 6 rfl) ?_
            refine lv_iadd hx hb dX11_findBy_140 ?_
            cases hq
            exact bk_iret C hH dX11_findBy_141

set_option maxRecDepth 100000 in
set_option maxHeartbeats 4000000 in
theorem w_X11_findBy_54 (C : bk_C G p s m args meth c cX11_findBy RX11 8 (some FieldType.int)) (k20 : bk_Lay → bk_Val → Nat → Int32 → Int32 → Int32 → Int32 → Option (Int32 × bk_Lay × bk_Val)) (i20 : ∀ (Y : bk_Lay) (V : bk_Val) (a0 : Nat) (x2 : Int32) (x3 : Int32) (x4 : Int32) (x5 : Int32) (H : Heap) (locs : List Loc) (ls : Array Slot) (out : Int32 × bk_Lay × bk_Val), lv_has ls 8 [(0, .ref a0), (2, .int x2), (3, .int x3), (4, .int x4), (5, .int x5)] → bk_H G Y V s.heap H locs → k20 Y V a0 x2 x3 x4 x5 = some out → W p l e rm_X11_findBy s m args below meth c H locs 0 0 (MQ below (bk_Q G (some (.int out.1)) out.2.1 out.2.2) args s 0 0 (bk_A G)) (F0 m 20 ls [])) : ∀ (Y : bk_Lay) (V : bk_Val) (a0 : Nat) (x2 : Int32) (x3 : Int32) (x4 : Int32) (x5 : Int32) (sx0 : Int32) (H : Heap) (locs : List Loc) (ls : Array Slot) (out : Int32 × bk_Lay × bk_Val), lv_has ls 8 [(0, .ref a0), (2, .int x2), (3, .int x3), (4, .int x4), (5, .int x5)] → bk_H G Y V s.heap H locs → q_X11_findBy_54 N k20 Y V a0 x2 x3 x4 x5 sx0 = some out → W p l e rm_X11_findBy s m args below meth c H locs 0 0 (MQ below (bk_Q G (some (.int out.1)) out.2.1 out.2.2) args s 0 0 (bk_A G)) (F0 m 54 ls [.int sx0]) := by
  have hx := C.1
  have hb := C.2.1
  intro Y V a0 x2 x3 x4 x5 sx0 H locs ls out hl hH hq
  unfold q_X11_findBy_54 at hq
  refine lv_istore (lv' := [(6, .int sx0), (0, .ref a0), (2, .int x2), (3, .int x3), (4, .int x4), (5, .int x5)]) hx hb dX11_findBy_54 hl (by decide) rfl (fun ls hl => ?_)
  refine lv_iconst (v := 0) hx hb dX11_findBy_56 (by decide) ?_
  refine lv_istore (lv' := [(7, .int 0), (6, .int sx0), (0, .ref a0), (2, .int x2), (3, .int x3), (4, .int x4), (5, .int x5)]) hx hb dX11_findBy_57 hl (by decide) rfl (fun ls hl => ?_)
  exact w_X11_findBy_59 C _ i20 _ _ _ _ _ _ _ _ _ _ _ _ _ _ (lv_sub hl [2, 3, 4, 5, 6, 1, 0] rfl) hH hq

set_option maxRecDepth 100000 in
set_option maxHeartbeats 4000000 in
theorem w_X11_findBy_20 (C : bk_C G p s m args meth c cX11_findBy RX11 8 (some FieldType.int)) : ∀ (n : Nat), ∀ (Y : bk_Lay) (V : bk_Val) (a0 : Nat) (x2 : Int32) (x3 : Int32) (x4 : Int32) (x5 : Int32) (H : Heap) (locs : List Loc) (ls : Array Slot) (out : Int32 × bk_Lay × bk_Val), lv_has ls 8 [(0, .ref a0), (2, .int x2), (3, .int x3), (4, .int x4), (5, .int x5)] → bk_H G Y V s.heap H locs → q_X11_findBy_20 N n Y V a0 x2 x3 x4 x5 = some out → W p l e rm_X11_findBy s m args below meth c H locs 0 0 (MQ below (bk_Q G (some (.int out.1)) out.2.1 out.2.2) args s 0 0 (bk_A G)) (F0 m 20 ls []) := by
  have hx := C.1
  have hb := C.2.1
  intro n
  induction n with
  | zero =>
    intro Y V a0 x2 x3 x4 x5 H locs ls out hl hH hq
    exact nomatch (show (none : Option (Int32 × bk_Lay × bk_Val)) = some out from hq)
  | succ n ih =>
    intro Y V a0 x2 x3 x4 x5 H locs ls out hl hH hq
    unfold q_X11_findBy_20 at hq
    refine lv_iload hx hb dX11_findBy_20 (lv_at hl 4 rfl) ?_
    refine lv_sipush (v := 600) hx hb dX11_findBy_22 (by decide) ?_
    refine lv_icmp_ge (tgt := 154) hx hb dX11_findBy_25 (by decide) (fun hc_38 => ?_) (fun hc_38 => ?_)
    · rw [if_pos hc_38] at hq
      refine lv_iconst (v := (-1)) hx hb dX11_findBy_154 (by decide) ?_
      cases hq
      exact bk_iret C hH dX11_findBy_155
    · rw [if_neg hc_38] at hq
      refine lv_iload_n hx hb dX11_findBy_28 rfl (lv_at hl 2 rfl) ?_
      refine lv_if_ne (tgt := 44) hx hb dX11_findBy_29 (by decide) (fun hc_37 => ?_) (fun hc_37 => ?_)
      · rw [if_neg hc_37] at hq
        refine lv_aload_n hx hb dX11_findBy_44 rfl (lv_at hl 0 rfl) ?_
        obtain ⟨hs_24, hq⟩ := bk_ck_some hq
        obtain ⟨b_25, hr_26, hq⟩ := bk_bd_some hq
        refine bk_getr C hH fl_RX11_33 hs_24 rfl hr_26 dX11_findBy_45 ?_
        refine lv_iload hx hb dX11_findBy_48 (lv_at hl 4 rfl) ?_
        refine lv_iload_n hx hb dX11_findBy_50 rfl (lv_at hl 2 rfl) ?_
        obtain ⟨hs_29, hq⟩ := bk_ck_some hq
        obtain ⟨r_28, hr_27, hq⟩ := bk_bd_some hq
        refine bk_callV (rest := []) (As := [.int x5, .int x3]) (ro := (some (.int r_28))) (Y1 := Y) (V1 := V) C hH hl.1 (c_X5_sweptInch hr_27) mc_X5_sweptInch mv_X5_sweptInch lk_RX11_326 hs_29 rfl rfl ⟨rfl, rfl⟩ ⟨by decide, by decide⟩ rfl (Nat.le_of_ble_eq_true rfl) dX11_findBy_51 ⟨by decide, by decide⟩ (fun H locs hH => ?_)
        exact w_X11_findBy_54 C _ ih _ _ _ _ _ _ _ _ _ _ _ _ (lv_sub hl [0, 1, 2, 3, 4] rfl) hH hq
      · rw [if_pos hc_37] at hq
        refine lv_aload_n hx hb dX11_findBy_32 rfl (lv_at hl 0 rfl) ?_
        obtain ⟨hs_30, hq⟩ := bk_ck_some hq
        obtain ⟨b_31, hr_32, hq⟩ := bk_bd_some hq
        refine bk_getr C hH fl_RX11_19 hs_30 rfl hr_32 dX11_findBy_33 ?_
        refine lv_iload hx hb dX11_findBy_36 (lv_at hl 4 rfl) ?_
        obtain ⟨hs_36, hq⟩ := bk_ck_some hq
        obtain ⟨r_34, V_35, hr_33, hq⟩ := bk_bd2_some hq
        refine bk_callV (rest := []) (As := [.int x5]) (ro := (some (.int r_34))) (Y1 := Y) (V1 := V_35) C hH hl.1 (c_X3_inchIn hr_33) mc_X3_inchIn mv_X3_inchIn lk_RX11_289 hs_36 rfl rfl ⟨rfl, rfl⟩ ⟨by decide, by decide⟩ rfl (Nat.le_of_ble_eq_true rfl) dX11_findBy_38 ⟨by decide, by decide⟩ (fun H locs hH => ?_)
        refine lv_goto (tgt := 54) hx hb dX11_findBy_41 (by decide) ?_
        exact w_X11_findBy_54 C _ ih _ _ _ _ _ _ _ _ _ _ _ _ (lv_sub hl [0, 1, 2, 3, 4] rfl) hH hq

set_option maxRecDepth 100000 in
set_option maxHeartbeats 4000000 in
theorem w_X11_findBy_14 (C : bk_C G p s m args meth c cX11_findBy RX11 8 (some FieldType.int)) : ∀ (Y : bk_Lay) (V : bk_Val) (a0 : Nat) (x1 : Int32) (x2 : Int32) (x3 : Int32) (H : Heap) (locs : List Loc) (ls : Array Slot) (out : Int32 × bk_Lay × bk_Val), lv_has ls 8 [(0, .ref a0), (1, .int x1), (2, .int x2), (3, .int x3)] → bk_H G Y V s.heap H locs → q_X11_findBy_14 N Y V a0 x1 x2 x3 = some out → W p l e rm_X11_findBy s m args below meth c H locs 0 0 (MQ below (bk_Q G (some (.int out.1)) out.2.1 out.2.2) args s 0 0 (bk_A G)) (F0 m 14 ls []) := by
  have hx := C.1
  have hb := C.2.1
  intro Y V a0 x1 x2 x3 H locs ls out hl hH hq
  unfold q_X11_findBy_14 at hq
  refine lv_iload_n hx hb dX11_findBy_14 rfl (lv_at hl 1 rfl) ?_
  refine lv_istore (lv' := [(4, .int x1), (0, .ref a0), (1, .int x1), (2, .int x2), (3, .int x3)]) hx hb dX11_findBy_15 hl (by decide) rfl (fun ls hl => ?_)
  refine lv_iconst (v := 0) hx hb dX11_findBy_17 (by decide) ?_
  refine lv_istore (lv' := [(5, .int 0), (4, .int x1), (0, .ref a0), (1, .int x1), (2, .int x2), (3, .int x3)]) hx hb dX11_findBy_18 hl (by decide) rfl (fun ls hl => ?_)
  exact w_X11_findBy_20 C _ _ _ _ _ _ _ _ _ _ _ _ (lv_sub hl [2, 4, 5, 1, 0] rfl) hH hq

set_option maxRecDepth 100000 in
set_option maxHeartbeats 4000000 in
theorem w_X11_findBy (C : bk_C G p s m args meth c cX11_findBy RX11 8 (some FieldType.int)) : ∀ (Y : bk_Lay) (V : bk_Val) (a0 : Nat) (x1 : Int32) (x2 : Int32) (x3 : Int32) (H : Heap) (locs : List Loc) (ls : Array Slot) (out : Int32 × bk_Lay × bk_Val), lv_has ls 8 [(0, .ref a0), (1, .int x1), (2, .int x2), (3, .int x3)] → bk_H G Y V s.heap H locs → q_X11_findBy N Y V a0 x1 x2 x3 = some out → W p l e rm_X11_findBy s m args below meth c H locs 0 0 (MQ below (bk_Q G (some (.int out.1)) out.2.1 out.2.2) args s 0 0 (bk_A G)) (F0 m 0 ls []) := by
  have hx := C.1
  have hb := C.2.1
  intro Y V a0 x1 x2 x3 H locs ls out hl hH hq
  unfold q_X11_findBy at hq
  refine lv_iload_n hx hb dX11_findBy_0 rfl (lv_at hl 2 rfl) ?_
  refine lv_if_ne (tgt := 6) hx hb dX11_findBy_1 (by decide) (fun hc_44 => ?_) (fun hc_44 => ?_)
  · rw [if_neg hc_44] at hq
    refine lv_iload_n hx hb dX11_findBy_6 rfl (lv_at hl 3 rfl) ?_
    refine lv_if_ne (tgt := 14) hx hb dX11_findBy_7 (by decide) (fun hc_43 => ?_) (fun hc_43 => ?_)
    · rw [if_neg hc_43] at hq
      exact w_X11_findBy_14 C _ _ _ _ _ _ _ _ _ _ (lv_sub hl [0, 1, 2, 3] rfl) hH hq
    · rw [if_pos hc_43] at hq
      refine lv_aload_n hx hb dX11_findBy_10 rfl (lv_at hl 0 rfl) ?_
      obtain ⟨hs_42, hq⟩ := bk_ck_some hq
      obtain ⟨Y_40, V_41, hr_39, hq⟩ := bk_bd2_some hq
      refine bk_callV (rest := []) (As := []) (ro := none) (Y1 := Y_40) (V1 := V_41) C hH hl.1 (c_X11_setOut hr_39) mc_X11_setOut mv_X11_setOut lk_RX11_286 hs_42 rfl rfl ⟨rfl, rfl⟩ ⟨by decide, by decide⟩ rfl (Nat.le_of_ble_eq_true rfl) dX11_findBy_11 ⟨by decide, by decide⟩ (fun H locs hH => ?_)
      exact w_X11_findBy_14 C _ _ _ _ _ _ _ _ _ _ (lv_sub hl [0, 1, 2, 3] rfl) hH hq
  · rw [if_pos hc_44] at hq
    refine lv_iconst (v := (-1)) hx hb dX11_findBy_4 (by decide) ?_
    cases hq
    exact bk_iret C hH dX11_findBy_5
set_option maxRecDepth 100000 in
theorem c_X11_findBy {l : Launch} {G : bk_G} {N : Nat} {Y : bk_Lay} {V : bk_Val} {a0 : Nat} {x1 : Int32} {x2 : Int32} {x3 : Int32} {out : Int32 × bk_Lay × bk_Val} (hq : q_X11_findBy N Y V a0 x1 x2 x3 = some out) : Met l yX11_findBy (bk_ws yX11_findBy cX11_findBy 8 (some FieldType.int)) rm_X11_findBy (bk_Pc G [.ref a0, .int x1, .int x2, .int x3] Y V) (bk_Q G (some (.int out.1)) out.2.1 out.2.2) 0 0 (bk_A G) :=
  bk_met (by decide) (Nat.le_of_ble_eq_true rfl) (fun p e s m args below meth c ls C hnm hH hl => w_X11_findBy C _ _ _ _ _ _ _ _ _ _ hl hH hq)

def rm_X11_partOfFind : Room := bk_rm 0 0 0 0
set_option maxRecDepth 100000 in
set_option maxHeartbeats 4000000 in
theorem w_X11_partOfFind (C : bk_C G p s m args meth c cX11_partOfFind RX11 2 (some FieldType.int)) : ∀ (V : bk_Val) (x0 : Int32) (x1 : Int32) (H : Heap) (locs : List Loc) (ls : Array Slot) (out : Int32), lv_has ls 2 [(0, .int x0), (1, .int x1)] → bk_H G Y V s.heap H locs → q_X11_partOfFind N Y V x0 x1 = some out → W p l e rm_X11_partOfFind s m args below meth c H locs 0 0 (MQ below (bk_Q G (some (.int out)) Y V) args s 0 0 (bk_A G)) (F0 m 0 ls []) := by
  have hx := C.1
  have hb := C.2.1
  intro V x0 x1 H locs ls out hl hH hq
  unfold q_X11_partOfFind at hq
  refine lv_iload_n hx hb dX11_partOfFind_0 rfl (lv_at hl 0 rfl) ?_
  refine lv_iconst (v := (-1)) hx hb dX11_partOfFind_1 (by decide) ?_
  refine lv_icmp_ne (tgt := 7) hx hb dX11_partOfFind_2 (by decide) (fun hc_2 => ?_) (fun hc_2 => ?_)
  · rw [if_neg hc_2] at hq
    refine lv_iload_n hx hb dX11_partOfFind_7 rfl (lv_at hl 1 rfl) ?_
    refine lv_if_ne (tgt := 18) hx hb dX11_partOfFind_8 (by decide) (fun hc_1 => ?_) (fun hc_1 => ?_)
    · rw [if_neg hc_1] at hq
      refine lv_iload_n hx hb dX11_partOfFind_18 rfl (lv_at hl 0 rfl) ?_
      refine lv_bipush (v := 6) hx hb dX11_partOfFind_19 (by decide) ?_
      refine bk_irem hx hb dX11_partOfFind_21 (by decide) ?_
      cases hq
      exact bk_iret C hH dX11_partOfFind_22
    · rw [if_pos hc_1] at hq
      refine lv_iload_n hx hb dX11_partOfFind_11 rfl (lv_at hl 0 rfl) ?_
      refine lv_bipush (v := 6) hx hb dX11_partOfFind_12 (by decide) ?_
      refine lv_idiv hx hb dX11_partOfFind_14 (by decide) ?_
      refine lv_goto (tgt := 22) hx hb dX11_partOfFind_15 (by decide) ?_
      cases hq
      exact bk_iret C hH dX11_partOfFind_22
  · rw [if_pos hc_2] at hq
    refine lv_iconst (v := (-1)) hx hb dX11_partOfFind_5 (by decide) ?_
    cases hq
    exact bk_iret C hH dX11_partOfFind_6
set_option maxRecDepth 100000 in
theorem c_X11_partOfFind {l : Launch} {G : bk_G} {N : Nat} {Y : bk_Lay} {V : bk_Val} {x0 : Int32} {x1 : Int32} {out : Int32} (hq : q_X11_partOfFind N Y V x0 x1 = some out) : Met l yX11_partOfFind (bk_ws yX11_partOfFind cX11_partOfFind 2 (some FieldType.int)) rm_X11_partOfFind (bk_Pc G [.int x0, .int x1] Y V) (bk_Q G (some (.int out)) Y V) 0 0 (bk_A G) :=
  bk_met (by decide) (Nat.le_of_ble_eq_true rfl) (fun p e s m args below meth c ls C hnm hH hl => w_X11_partOfFind C _ _ _ _ _ _ _ hl hH hq)

def rm_X11_seeks : Room := bk_rm 9 2 12 220
set_option maxRecDepth 100000 in
set_option maxHeartbeats 4000000 in
theorem w_X11_seeks_91 {XC : String → State → State → Prop} (C : bk_C G p s m args meth c cX11_seeks RX11 12 (some FieldType.int)) (hst : l.stackTraces = false) (hT9 : ∀ x ∈ c.exceptionTable.toList, False) (k39 : bk_Lay → bk_Val → Nat → Int32 → Int32 → Int32 → Int32 → Int32 → Int32 → Int32 → Int32 → Option (Nat ⊕ (Int32 × bk_Lay × bk_Val))) (i39 : ∀ (Y : bk_Lay) (V : bk_Val) (a0 : Nat) (x1 : Int32) (x2 : Int32) (x4 : Int32) (x5 : Int32) (x6 : Int32) (x7 : Int32) (x8 : Int32) (x9 : Int32) (H : Heap) (locs : List Loc) (ls : Array Slot) (out : Nat ⊕ (Int32 × bk_Lay × bk_Val)), lv_has ls 12 [(0, .ref a0), (1, .int x1), (2, .int x2), (4, .int x4), (5, .int x5), (6, .int x6), (7, .int x7), (8, .int x8), (9, .int x9)] → bk_H G Y V s.heap H locs → k39 Y V a0 x1 x2 x4 x5 x6 x7 x8 x9 = some out → W p l e rm_X11_seeks s m args below meth c H locs 2 12 (vx_MQ below (bk_QX (fun (o : Int32 × bk_Lay × bk_Val) => bk_Q G (some (.int o.1)) o.2.1 o.2.2) out) XC args s 2 12 (bk_A G)) (F0 m 39 ls [])) : ∀ (Y : bk_Lay) (V : bk_Val) (a0 : Nat) (x1 : Int32) (x2 : Int32) (x4 : Int32) (x5 : Int32) (x6 : Int32) (x7 : Int32) (x8 : Int32) (x9 : Int32) (H : Heap) (locs : List Loc) (ls : Array Slot) (out : Nat ⊕ (Int32 × bk_Lay × bk_Val)), lv_has ls 12 [(0, .ref a0), (1, .int x1), (2, .int x2), (4, .int x4), (5, .int x5), (6, .int x6), (7, .int x7), (8, .int x8), (9, .int x9)] → bk_H G Y V s.heap H locs → q_X11_seeks_91 N k39 Y V a0 x1 x2 x4 x5 x6 x7 x8 x9 = some out → W p l e rm_X11_seeks s m args below meth c H locs 2 12 (vx_MQ below (bk_QX (fun (o : Int32 × bk_Lay × bk_Val) => bk_Q G (some (.int o.1)) o.2.1 o.2.2) out) XC args s 2 12 (bk_A G)) (F0 m 91 ls []) := by
  have hx := C.1
  have hb := C.2.1
  intro Y V a0 x1 x2 x4 x5 x6 x7 x8 x9 H locs ls out hl hH hq
  unfold q_X11_seeks_91 at hq
  refine lv_iinc (v := (x9 + 1)) (lv' := [(9, .int (x9 + 1)), (0, .ref a0), (1, .int x1), (2, .int x2), (4, .int x4), (5, .int x5), (6, .int x6), (7, .int x7), (8, .int x8)]) hx hb dX11_seeks_91 hl (k := 8) rfl rfl (by decide) rfl (fun ls hl => ?_)
  refine lv_goto (tgt := 39) hx hb dX11_seeks_94 (by decide) ?_
  exact i39 _ _ _ _ _ _ _ _ _ _ _ _ _ _ _ (lv_sub hl [1, 2, 3, 4, 5, 6, 7, 8, 0] rfl) hH hq

set_option maxRecDepth 100000 in
set_option maxHeartbeats 4000000 in
theorem w_X11_seeks_39 {XC : String → State → State → Prop} (C : bk_C G p s m args meth c cX11_seeks RX11 12 (some FieldType.int)) (hst : l.stackTraces = false) (hT9 : ∀ x ∈ c.exceptionTable.toList, False) : ∀ (n : Nat), ∀ (Y : bk_Lay) (V : bk_Val) (a0 : Nat) (x1 : Int32) (x2 : Int32) (x4 : Int32) (x5 : Int32) (x6 : Int32) (x7 : Int32) (x8 : Int32) (x9 : Int32) (H : Heap) (locs : List Loc) (ls : Array Slot) (out : Nat ⊕ (Int32 × bk_Lay × bk_Val)), lv_has ls 12 [(0, .ref a0), (1, .int x1), (2, .int x2), (4, .int x4), (5, .int x5), (6, .int x6), (7, .int x7), (8, .int x8), (9, .int x9)] → bk_H G Y V s.heap H locs → q_X11_seeks_39 N n Y V a0 x1 x2 x4 x5 x6 x7 x8 x9 = some out → W p l e rm_X11_seeks s m args below meth c H locs 2 12 (vx_MQ below (bk_QX (fun (o : Int32 × bk_Lay × bk_Val) => bk_Q G (some (.int o.1)) o.2.1 o.2.2) out) XC args s 2 12 (bk_A G)) (F0 m 39 ls []) := by
  have hx := C.1
  have hb := C.2.1
  intro n
  induction n with
  | zero =>
    intro Y V a0 x1 x2 x4 x5 x6 x7 x8 x9 H locs ls out hl hH hq
    exact nomatch (show (none : Option (Nat ⊕ (Int32 × bk_Lay × bk_Val))) = some out from hq)
  | succ n ih =>
    intro Y V a0 x1 x2 x4 x5 x6 x7 x8 x9 H locs ls out hl hH hq
    unfold q_X11_seeks_39 at hq
    refine lv_iload hx hb dX11_seeks_39 (lv_at hl 8 rfl) ?_
    refine lv_iload_n hx hb dX11_seeks_41 rfl (lv_at hl 2 rfl) ?_
    refine lv_icmp_ge (tgt := 97) hx hb dX11_seeks_42 (by decide) (fun hc_13 => ?_) (fun hc_13 => ?_)
    · rw [if_pos hc_13] at hq
      refine lv_iload hx hb dX11_seeks_97 (lv_at hl 3 rfl) ?_
      refine lv_if_ne (tgt := 107) hx hb dX11_seeks_99 (by decide) (fun hc_2 => ?_) (fun hc_2 => ?_)
      · rw [if_neg hc_2] at hq
        refine lv_iload hx hb dX11_seeks_107 (lv_at hl 3 rfl) ?_
        refine lv_iconst (v := 1) hx hb dX11_seeks_109 (by decide) ?_
        refine lv_icmp_ne (tgt := 118) hx hb dX11_seeks_110 (by decide) (fun hc_1 => ?_) (fun hc_1 => ?_)
        · rw [if_neg hc_1] at hq
          refine lv_iload hx hb dX11_seeks_118 (lv_at hl 7 rfl) ?_
          refine vx_ret ?_
          cases hq
          exact bk_iret C hH dX11_seeks_120
        · rw [if_pos hc_1] at hq
          refine lv_iload hx hb dX11_seeks_113 (lv_at hl 6 rfl) ?_
          refine lv_goto (tgt := 120) hx hb dX11_seeks_115 (by decide) ?_
          refine vx_ret ?_
          cases hq
          exact bk_iret C hH dX11_seeks_120
      · rw [if_pos hc_2] at hq
        refine lv_iload hx hb dX11_seeks_102 (lv_at hl 5 rfl) ?_
        refine lv_goto (tgt := 120) hx hb dX11_seeks_104 (by decide) ?_
        refine vx_ret ?_
        cases hq
        exact bk_iret C hH dX11_seeks_120
    · rw [if_neg hc_13] at hq
      refine lv_aload_n hx hb dX11_seeks_45 rfl (lv_at hl 0 rfl) ?_
      refine lv_iload_n hx hb dX11_seeks_46 rfl (lv_at hl 1 rfl) ?_
      refine lv_iload hx hb dX11_seeks_47 (lv_at hl 8 rfl) ?_
      refine lv_iadd hx hb dX11_seeks_49 ?_
      refine lv_iload hx hb dX11_seeks_50 (lv_at hl 4 rfl) ?_
      refine lv_iconst (v := 0) hx hb dX11_seeks_52 (by decide) ?_
      obtain ⟨hs_7, hq⟩ := bk_ck_some hq
      obtain ⟨r_4, Y_5, V_6, hr_3, hq⟩ := bk_bd3_some hq
      refine bk_callV (rest := []) (As := [.int (x1 + x9), .int x5, .int 0]) (ro := (some (.int r_4))) (Y1 := Y_5) (V1 := V_6) C hH hl.1 (c_X11_findBy hr_3) mc_X11_findBy mv_X11_findBy lk_RX11_306 hs_7 rfl rfl ⟨rfl, rfl⟩ ⟨by decide, by decide⟩ rfl (Nat.le_of_ble_eq_true rfl) dX11_seeks_53 ⟨by decide, by decide⟩ (fun H locs hH => ?_)
      refine lv_istore (lv' := [(10, .int r_4), (0, .ref a0), (1, .int x1), (2, .int x2), (4, .int x4), (5, .int x5), (6, .int x6), (7, .int x7), (8, .int x8), (9, .int x9)]) hx hb dX11_seeks_56 hl (by decide) rfl (fun ls hl => ?_)
      refine lv_iload hx hb dX11_seeks_58 (lv_at hl 0 rfl) ?_
      refine lv_iconst (v := (-1)) hx hb dX11_seeks_60 (by decide) ?_
      refine lv_icmp_eq (tgt := 91) hx hb dX11_seeks_61 (by decide) (fun hc_12 => ?_) (fun hc_12 => ?_)
      · rw [if_pos hc_12] at hq
        exact w_X11_seeks_91 C hst hT9 _ ih _ _ _ _ _ _ _ _ _ _ _ _ _ _ _ (lv_sub hl [1, 2, 3, 4, 5, 6, 7, 8, 9] rfl) hH hq
      · rw [if_neg hc_12] at hq
        refine lv_iload hx hb dX11_seeks_64 (lv_at hl 0 rfl) ?_
        refine lv_iconst (v := 0) hx hb dX11_seeks_66 (by decide) ?_
        obtain ⟨r_9, hr_8, hq⟩ := bk_bd_some hq
        refine bk_callS (rest := []) (As := [.int r_4, .int 0]) (ro := (some (.int r_9))) (Y1 := Y_5) (V1 := V_6) C hH hl.1 (c_X11_partOfFind hr_8) mc_X11_partOfFind st_X11_partOfFind lk_RX11_310 rfl ⟨rfl, rfl⟩ ⟨by decide, by decide⟩ rfl (Nat.le_of_ble_eq_true rfl) dX11_seeks_67 ⟨by decide, by decide⟩ (fun H locs hH => ?_)
        refine lv_istore (lv' := [(11, .int r_9), (10, .int r_4), (0, .ref a0), (1, .int x1), (2, .int x2), (4, .int x4), (5, .int x5), (6, .int x6), (7, .int x7), (8, .int x8), (9, .int x9)]) hx hb dX11_seeks_70 hl (by decide) rfl (fun ls hl => ?_)
        refine lv_iinc (v := (x6 + 1)) (lv' := [(6, .int (x6 + 1)), (11, .int r_9), (10, .int r_4), (0, .ref a0), (1, .int x1), (2, .int x2), (4, .int x4), (5, .int x5), (7, .int x7), (8, .int x8), (9, .int x9)]) hx hb dX11_seeks_72 hl (k := 7) rfl rfl (by decide) rfl (fun ls hl => ?_)
        refine lv_iload hx hb dX11_seeks_75 (lv_at hl 8 rfl) ?_
        refine lv_iload hx hb dX11_seeks_77 (lv_at hl 1 rfl) ?_
        refine lv_iadd hx hb dX11_seeks_79 ?_
        refine lv_istore (lv' := [(7, .int (x7 + r_9)), (6, .int (x6 + 1)), (11, .int r_9), (10, .int r_4), (0, .ref a0), (1, .int x1), (2, .int x2), (4, .int x4), (5, .int x5), (8, .int x8), (9, .int x9)]) hx hb dX11_seeks_80 hl (by decide) rfl (fun ls hl => ?_)
        refine lv_iload hx hb dX11_seeks_82 (lv_at hl 9 rfl) ?_
        refine lv_iload hx hb dX11_seeks_84 (lv_at hl 2 rfl) ?_
        obtain ⟨r_11, hr_10, hq⟩ := bk_bd_some hq
        refine bk_callS (rest := []) (As := [.int x8, .int r_9]) (ro := (some (.int r_11))) (Y1 := Y_5) (V1 := V_6) C hH hl.1 (c_J9_max_7cf53 hr_10) mc_J9_max_7cf53 st_J9_max_7cf53 lk_RX11_314 rfl ⟨rfl, rfl⟩ ⟨by decide, by decide⟩ rfl (Nat.le_of_ble_eq_true rfl) dX11_seeks_86 ⟨by decide, by decide⟩ (fun H locs hH => ?_)
        refine lv_istore (lv' := [(8, .int r_11), (7, .int (x7 + r_9)), (6, .int (x6 + 1)), (11, .int r_9), (10, .int r_4), (0, .ref a0), (1, .int x1), (2, .int x2), (4, .int x4), (5, .int x5), (9, .int x9)]) hx hb dX11_seeks_89 hl (by decide) rfl (fun ls hl => ?_)
        exact w_X11_seeks_91 C hst hT9 _ ih _ _ _ _ _ _ _ _ _ _ _ _ _ _ _ (lv_sub hl [5, 6, 7, 8, 9, 2, 1, 0, 10] rfl) hH hq

set_option maxRecDepth 100000 in
set_option maxHeartbeats 4000000 in
theorem w_X11_seeks (C : bk_C G p s m args meth c cX11_seeks RX11 12 (some FieldType.int)) (hst : l.stackTraces = false) (hT9 : ∀ x ∈ c.exceptionTable.toList, False) : ∀ (Y : bk_Lay) (V : bk_Val) (a0 : Nat) (x1 : Int32) (x2 : Int32) (x3 : Int32) (x4 : Int32) (H : Heap) (locs : List Loc) (ls : Array Slot) (out : Nat ⊕ (Int32 × bk_Lay × bk_Val)), lv_has ls 12 [(0, .ref a0), (1, .int x1), (2, .int x2), (3, .int x3), (4, .int x4)] → bk_H G Y V s.heap H locs → q_X11_seeks N Y V a0 x1 x2 x3 x4 = some out → W p l e rm_X11_seeks s m args below meth c H locs 0 0 (vx_MQ below (bk_QX (fun (o : Int32 × bk_Lay × bk_Val) => bk_Q G (some (.int o.1)) o.2.1 o.2.2) out) (bk_XC G Y V out) args s 2 12 (bk_A G)) (F0 m 0 ls []) := by
  have hx := C.1
  have hb := C.2.1
  intro Y V a0 x1 x2 x3 x4 H locs ls out hl hH hq
  unfold q_X11_seeks at hq
  refine lv_iload hx hb dX11_seeks_0 (lv_at hl 4 rfl) ?_
  refine lv_iconst (v := 0) hx hb dX11_seeks_2 (by decide) ?_
  refine lv_iconst (v := 2) hx hb dX11_seeks_3 (by decide) ?_
  obtain ⟨r_15, hr_14, hq⟩ := bk_bd_some hq
  refine bk_callS (rest := []) (As := [.int x4, .int 0, .int 2]) (ro := (some (.int r_15))) (Y1 := Y) (V1 := V) C hH hl.1 (c_X11_isWithin hr_14) mc_X11_isWithin st_X11_isWithin lk_RX11_78 rfl ⟨rfl, rfl⟩ ⟨by decide, by decide⟩ rfl (Nat.le_of_ble_eq_true rfl) dX11_seeks_4 ⟨by decide, by decide⟩ (fun H locs hH => ?_)
  rcases bk_bdx_cases hq with ⟨x9_17, hr_16, ho_18⟩ | ⟨u7, hr_16, hq⟩
  · exact bk_callSt (rest := []) (As := [.int r_15]) (e9 := x9_17) C hT9 hH hl.1 (c_X11_needElement hst hr_16) ho_18 mc_X11_needElement st_X11_needElement ml_RX11_214 rfl ⟨rfl, rfl⟩ ⟨by decide, by decide⟩ rfl (Nat.le_of_ble_eq_true rfl) dX11_seeks_7 ⟨by decide, by decide⟩ (by decide) (by decide)
  · refine bk_callSr (rest := []) (As := [.int r_15]) (o1 := u7) (ro := none) (Y1 := Y) (V1 := V) rfl C hH hl.1 (c_X11_needElement hst hr_16) mc_X11_needElement st_X11_needElement ml_RX11_214 rfl ⟨rfl, rfl⟩ ⟨by decide, by decide⟩ rfl (Nat.le_of_ble_eq_true rfl) dX11_seeks_7 ⟨by decide, by decide⟩ (fun H locs hH => ?_)
    refine W.widen (k := 1) (n := 6) (by decide) (by decide) ?_
    refine lv_iload_n hx hb dX11_seeks_10 rfl (lv_at hl 2 rfl) ?_
    refine lv_iconst (v := 0) hx hb dX11_seeks_11 (by decide) ?_
    refine lv_bipush (v := 30) hx hb dX11_seeks_12 (by decide) ?_
    obtain ⟨r_20, hr_19, hq⟩ := bk_bd_some hq
    refine bk_callS (rest := []) (As := [.int x2, .int 0, .int 30]) (ro := (some (.int r_20))) (Y1 := Y) (V1 := V) C hH hl.1 (c_X11_isWithin hr_19) mc_X11_isWithin st_X11_isWithin lk_RX11_78 rfl ⟨rfl, rfl⟩ ⟨by decide, by decide⟩ rfl (Nat.le_of_ble_eq_true rfl) dX11_seeks_14 ⟨by decide, by decide⟩ (fun H locs hH => ?_)
    rcases bk_bdx_cases hq with ⟨x9_22, hr_21, ho_23⟩ | ⟨u17, hr_21, hq⟩
    · exact bk_callSt (rest := []) (As := [.int r_20]) (e9 := x9_22) C hT9 hH hl.1 (c_X11_needArgument hst hr_21) ho_23 mc_X11_needArgument st_X11_needArgument ml_RX11_82 rfl ⟨rfl, rfl⟩ ⟨by decide, by decide⟩ rfl (Nat.le_of_ble_eq_true rfl) dX11_seeks_17 ⟨by decide, by decide⟩ (by decide) (by decide)
    · refine bk_callSr (rest := []) (As := [.int r_20]) (o1 := u17) (ro := none) (Y1 := Y) (V1 := V) rfl C hH hl.1 (c_X11_needArgument hst hr_21) mc_X11_needArgument st_X11_needArgument ml_RX11_82 rfl ⟨rfl, rfl⟩ ⟨by decide, by decide⟩ rfl (Nat.le_of_ble_eq_true rfl) dX11_seeks_17 ⟨by decide, by decide⟩ (fun H locs hH => ?_)
      refine W.widen (k := 2) (n := 12) (by decide) (by decide) ?_
      refine lv_aload_n hx hb dX11_seeks_20 rfl (lv_at hl 0 rfl) ?_
      refine lv_iload_n hx hb dX11_seeks_21 rfl (lv_at hl 3 rfl) ?_
      obtain ⟨hs_26, hq⟩ := bk_ck_some hq
      obtain ⟨r_25, hr_24, hq⟩ := bk_bd_some hq
      refine bk_callV (rest := []) (As := [.int x3]) (ro := (some (.int r_25))) (Y1 := Y) (V1 := V) C hH hl.1 (c_X11_leakingHoles hr_24) mc_X11_leakingHoles mv_X11_leakingHoles lk_RX11_181 hs_26 rfl rfl ⟨rfl, rfl⟩ ⟨by decide, by decide⟩ rfl (Nat.le_of_ble_eq_true rfl) dX11_seeks_22 ⟨by decide, by decide⟩ (fun H locs hH => ?_)
      refine lv_istore (lv' := [(5, .int r_25), (0, .ref a0), (1, .int x1), (2, .int x2), (3, .int x3), (4, .int x4)]) hx hb dX11_seeks_25 hl (by decide) rfl (fun ls hl => ?_)
      refine lv_iconst (v := 0) hx hb dX11_seeks_27 (by decide) ?_
      refine lv_istore (lv' := [(6, .int 0), (5, .int r_25), (0, .ref a0), (1, .int x1), (2, .int x2), (3, .int x3), (4, .int x4)]) hx hb dX11_seeks_28 hl (by decide) rfl (fun ls hl => ?_)
      refine lv_iconst (v := 0) hx hb dX11_seeks_30 (by decide) ?_
      refine lv_istore (lv' := [(7, .int 0), (6, .int 0), (5, .int r_25), (0, .ref a0), (1, .int x1), (2, .int x2), (3, .int x3), (4, .int x4)]) hx hb dX11_seeks_31 hl (by decide) rfl (fun ls hl => ?_)
      refine lv_iconst (v := 0) hx hb dX11_seeks_33 (by decide) ?_
      refine lv_istore (lv' := [(8, .int 0), (7, .int 0), (6, .int 0), (5, .int r_25), (0, .ref a0), (1, .int x1), (2, .int x2), (3, .int x3), (4, .int x4)]) hx hb dX11_seeks_34 hl (by decide) rfl (fun ls hl => ?_)
      refine lv_iconst (v := 0) hx hb dX11_seeks_36 (by decide) ?_
      refine lv_istore (lv' := [(9, .int 0), (8, .int 0), (7, .int 0), (6, .int 0), (5, .int r_25), (0, .ref a0), (1, .int x1), (2, .int x2), (3, .int x3), (4, .int x4)]) hx hb dX11_seeks_37 hl (by decide) rfl (fun ls hl => ?_)
      exact w_X11_seeks_39 C hst hT9 _ _ _ _ _ _ _ _ _ _ _ _ _ _ _ _ (lv_sub hl [5, 6, 7, 9, 4, 3, 2, 1, 0] rfl) hH hq
set_option maxRecDepth 100000 in
theorem c_X11_seeks {l : Launch} {G : bk_G} {N : Nat} {Y : bk_Lay} {V : bk_Val} (hst : l.stackTraces = false) {a0 : Nat} {x1 : Int32} {x2 : Int32} {x3 : Int32} {x4 : Int32} {out : Nat ⊕ (Int32 × bk_Lay × bk_Val)} (hq : q_X11_seeks N Y V a0 x1 x2 x3 x4 = some out) : vx_Met l yX11_seeks (bk_ws yX11_seeks cX11_seeks 12 (some FieldType.int)) rm_X11_seeks (bk_Pc G [.ref a0, .int x1, .int x2, .int x3, .int x4] Y V) (bk_QX (fun (o : Int32 × bk_Lay × bk_Val) => bk_Q G (some (.int o.1)) o.2.1 o.2.2) out) (bk_XC G Y V out) 2 12 (bk_A G) :=
  bk_metx (by decide) (Nat.le_of_ble_eq_true rfl) (fun p e s m args below meth c ls C hT9 hH hl => w_X11_seeks C hst hT9 _ _ _ _ _ _ _ _ _ _ _ hl hH hq)

def rm_X11_isInch : Room := bk_rm 1 0 0 22
set_option maxRecDepth 100000 in
set_option maxHeartbeats 4000000 in
theorem w_X11_isInch (C : bk_C G p s m args meth c cX11_isInch RX11 2 (some FieldType.boolean)) : ∀ (V : bk_Val) (a0 : Nat) (x1 : Int32) (H : Heap) (locs : List Loc) (ls : Array Slot) (out : Int32), lv_has ls 2 [(0, .ref a0), (1, .int x1)] → bk_H G Y V s.heap H locs → q_X11_isInch N Y V a0 x1 = some out → W p l e rm_X11_isInch s m args below meth c H locs 0 0 (MQ below (bk_Q G (some (.int out)) Y V) args s 0 0 (bk_A G)) (F0 m 0 ls []) := by
  have hx := C.1
  have hb := C.2.1
  intro V a0 x1 H locs ls out hl hH hq
  unfold q_X11_isInch at hq
  refine lv_iload_n hx hb dX11_isInch_0 rfl (lv_at hl 1 rfl) ?_
  refine lv_iconst (v := 0) hx hb dX11_isInch_1 (by decide) ?_
  refine lv_aload_n hx hb dX11_isInch_2 rfl (lv_at hl 0 rfl) ?_
  obtain ⟨hs_1, hq⟩ := bk_ck_some hq
  obtain ⟨b_2, hr_3, hq⟩ := bk_bd_some hq
  refine bk_getr C hH fl_RX11_33 hs_1 rfl hr_3 dX11_isInch_3 ?_
  obtain ⟨hs_6, hq⟩ := bk_ck_some hq
  obtain ⟨r_5, hr_4, hq⟩ := bk_bd_some hq
  refine bk_callV (rest := [.int 0, .int x1]) (As := []) (ro := (some (.int r_5))) (Y1 := Y) (V1 := V) C hH hl.1 (c_X5_inches hr_4) mc_X5_inches mv_X5_inches lk_RX11_248 hs_6 rfl rfl ⟨rfl, rfl⟩ ⟨by decide, by decide⟩ rfl (Nat.le_of_ble_eq_true rfl) dX11_isInch_6 ⟨by decide, by decide⟩ (fun H locs hH => ?_)
  refine lv_iconst (v := 1) hx hb dX11_isInch_9 (by decide) ?_
  refine lv_isub hx hb dX11_isInch_10 ?_
  obtain ⟨r_8, hr_7, hq⟩ := bk_bd_some hq
  refine bk_callS (rest := []) (As := [.int x1, .int 0, .int (r_5 - 1)]) (ro := (some (.int r_8))) (Y1 := Y) (V1 := V) C hH hl.1 (c_X11_isWithin hr_7) mc_X11_isWithin st_X11_isWithin lk_RX11_78 rfl ⟨rfl, rfl⟩ ⟨by decide, by decide⟩ rfl (Nat.le_of_ble_eq_true rfl) dX11_isInch_11 ⟨by decide, by decide⟩ (fun H locs hH => ?_)
  obtain ⟨hz9, hq⟩ := bk_ck_some hq
  cases hq
  exact bk_zret C hH hz9 dX11_isInch_14
set_option maxRecDepth 100000 in
theorem c_X11_isInch {l : Launch} {G : bk_G} {N : Nat} {Y : bk_Lay} {V : bk_Val} {a0 : Nat} {x1 : Int32} {out : Int32} (hq : q_X11_isInch N Y V a0 x1 = some out) : Met l yX11_isInch (bk_ws yX11_isInch cX11_isInch 2 (some FieldType.boolean)) rm_X11_isInch (bk_Pc G [.ref a0, .int x1] Y V) (bk_Q G (some (.int out)) Y V) 0 0 (bk_A G) :=
  bk_met (by decide) (Nat.le_of_ble_eq_true rfl) (fun p e s m args below meth c ls C hnm hH hl => w_X11_isInch C _ _ _ _ _ _ _ hl hH hq)

def rm_X11_feel : Room := bk_rm 9 1 6 220
set_option maxRecDepth 100000 in
set_option maxHeartbeats 4000000 in
theorem w_X11_feel (C : bk_C G p s m args meth c cX11_feel RX11 4 (some FieldType.int)) (hst : l.stackTraces = false) (hT9 : ∀ x ∈ c.exceptionTable.toList, False) : ∀ (V : bk_Val) (a0 : Nat) (x1 : Int32) (H : Heap) (locs : List Loc) (ls : Array Slot) (out : Nat ⊕ (Int32)), lv_has ls 4 [(0, .ref a0), (1, .int x1)] → bk_H G Y V s.heap H locs → q_X11_feel N Y V a0 x1 = some out → W p l e rm_X11_feel s m args below meth c H locs 0 0 (vx_MQ below (bk_QX (fun (o : Int32) => bk_Q G (some (.int o)) Y V) out) (bk_XC G Y V out) args s 1 6 (bk_A G)) (F0 m 0 ls []) := by
  have hx := C.1
  have hb := C.2.1
  intro V a0 x1 H locs ls out hl hH hq
  unfold q_X11_feel at hq
  refine lv_aload_n hx hb dX11_feel_0 rfl (lv_at hl 0 rfl) ?_
  refine lv_iload_n hx hb dX11_feel_1 rfl (lv_at hl 1 rfl) ?_
  obtain ⟨hs_3, hq⟩ := bk_ck_some hq
  obtain ⟨r_2, hr_1, hq⟩ := bk_bd_some hq
  refine bk_callV (rest := []) (As := [.int x1]) (ro := (some (.int r_2))) (Y1 := Y) (V1 := V) C hH hl.1 (c_X11_isInch hr_1) mc_X11_isInch mv_X11_isInch lk_RX11_220 hs_3 rfl rfl ⟨rfl, rfl⟩ ⟨by decide, by decide⟩ rfl (Nat.le_of_ble_eq_true rfl) dX11_feel_2 ⟨by decide, by decide⟩ (fun H locs hH => ?_)
  rcases bk_bdx_cases hq with ⟨x9_5, hr_4, ho_6⟩ | ⟨u5, hr_4, hq⟩
  · exact bk_callSt (rest := []) (As := [.int r_2]) (e9 := x9_5) C hT9 hH hl.1 (c_X11_needElement hst hr_4) ho_6 mc_X11_needElement st_X11_needElement ml_RX11_214 rfl ⟨rfl, rfl⟩ ⟨by decide, by decide⟩ rfl (Nat.le_of_ble_eq_true rfl) dX11_feel_5 ⟨by decide, by decide⟩ (by decide) (by decide)
  · refine bk_callSr (rest := []) (As := [.int r_2]) (o1 := u5) (ro := none) (Y1 := Y) (V1 := V) rfl C hH hl.1 (c_X11_needElement hst hr_4) mc_X11_needElement st_X11_needElement ml_RX11_214 rfl ⟨rfl, rfl⟩ ⟨by decide, by decide⟩ rfl (Nat.le_of_ble_eq_true rfl) dX11_feel_5 ⟨by decide, by decide⟩ (fun H locs hH => ?_)
    refine W.widen (k := 1) (n := 6) (by decide) (by decide) ?_
    refine lv_aload_n hx hb dX11_feel_8 rfl (lv_at hl 0 rfl) ?_
    obtain ⟨b_7, hr_8, hq⟩ := bk_bd_some hq
    refine bk_getr C hH fl_RX11_33 hs_3 rfl hr_8 dX11_feel_9 ?_
    refine lv_aload_n hx hb dX11_feel_12 rfl (lv_at hl 0 rfl) ?_
    refine bk_getr C hH fl_RX11_33 hs_3 rfl hr_8 dX11_feel_13 ?_
    obtain ⟨hs_11, hq⟩ := bk_ck_some hq
    obtain ⟨r_10, hr_9, hq⟩ := bk_bd_some hq
    refine bk_callV (rest := [.ref b_7]) (As := []) (ro := (some (.int r_10))) (Y1 := Y) (V1 := V) C hH hl.1 (c_X5_mark hr_9) mc_X5_mark mv_X5_mark lk_RX11_254 hs_11 rfl rfl ⟨rfl, rfl⟩ ⟨by decide, by decide⟩ rfl (Nat.le_of_ble_eq_true rfl) dX11_feel_16 ⟨by decide, by decide⟩ (fun H locs hH => ?_)
    refine lv_iload_n hx hb dX11_feel_19 rfl (lv_at hl 1 rfl) ?_
    refine lv_iadd hx hb dX11_feel_20 ?_
    obtain ⟨r_13, hr_12, hq⟩ := bk_bd_some hq
    refine bk_callV (rest := []) (As := [.int (r_10 + x1)]) (ro := (some (.int r_13))) (Y1 := Y) (V1 := V) C hH hl.1 (c_X5_round hr_12) mc_X5_round mv_X5_round lk_RX11_231 hs_11 rfl rfl ⟨rfl, rfl⟩ ⟨by decide, by decide⟩ rfl (Nat.le_of_ble_eq_true rfl) dX11_feel_21 ⟨by decide, by decide⟩ (fun H locs hH => ?_)
    refine lv_istore_n (lv' := [(2, .int r_13), (0, .ref a0), (1, .int x1)]) hx hb dX11_feel_24 rfl hl (by decide) rfl (fun ls hl => ?_)
    refine lv_aload_n hx hb dX11_feel_25 rfl (lv_at hl 1 rfl) ?_
    refine bk_getr C hH fl_RX11_33 hs_3 rfl hr_8 dX11_feel_26 ?_
    refine lv_aload_n hx hb dX11_feel_29 rfl (lv_at hl 1 rfl) ?_
    refine bk_getr C hH fl_RX11_33 hs_3 rfl hr_8 dX11_feel_30 ?_
    obtain ⟨r_15, hr_14, hq⟩ := bk_bd_some hq
    refine bk_callV (rest := [.ref b_7]) (As := []) (ro := (some (.int r_15))) (Y1 := Y) (V1 := V) C hH hl.1 (c_X5_mark hr_14) mc_X5_mark mv_X5_mark lk_RX11_254 hs_11 rfl rfl ⟨rfl, rfl⟩ ⟨by decide, by decide⟩ rfl (Nat.le_of_ble_eq_true rfl) dX11_feel_33 ⟨by decide, by decide⟩ (fun H locs hH => ?_)
    refine lv_iload_n hx hb dX11_feel_36 rfl (lv_at hl 2 rfl) ?_
    refine lv_isub hx hb dX11_feel_37 ?_
    obtain ⟨r_17, hr_16, hq⟩ := bk_bd_some hq
    refine bk_callV (rest := []) (As := [.int (r_15 - x1)]) (ro := (some (.int r_17))) (Y1 := Y) (V1 := V) C hH hl.1 (c_X5_round hr_16) mc_X5_round mv_X5_round lk_RX11_231 hs_11 rfl rfl ⟨rfl, rfl⟩ ⟨by decide, by decide⟩ rfl (Nat.le_of_ble_eq_true rfl) dX11_feel_38 ⟨by decide, by decide⟩ (fun H locs hH => ?_)
    refine lv_istore_n (lv' := [(3, .int r_17), (2, .int r_13), (0, .ref a0), (1, .int x1)]) hx hb dX11_feel_41 rfl hl (by decide) rfl (fun ls hl => ?_)
    refine lv_bipush (v := 100) hx hb dX11_feel_42 (by decide) ?_
    refine lv_iload_n hx hb dX11_feel_44 rfl (lv_at hl 1 rfl) ?_
    refine lv_iload_n hx hb dX11_feel_45 rfl (lv_at hl 0 rfl) ?_
    obtain ⟨r_19, hr_18, hq⟩ := bk_bd_some hq
    refine bk_callS (rest := [.int 100]) (As := [.int r_13, .int r_17]) (ro := (some (.int r_19))) (Y1 := Y) (V1 := V) C hH hl.1 (c_J9_min_7cf53 hr_18) mc_J9_min_7cf53 st_J9_min_7cf53 lk_RX11_357 rfl ⟨rfl, rfl⟩ ⟨by decide, by decide⟩ rfl (Nat.le_of_ble_eq_true rfl) dX11_feel_46 ⟨by decide, by decide⟩ (fun H locs hH => ?_)
    refine lv_imul hx hb dX11_feel_49 ?_
    refine lv_iload_n hx hb dX11_feel_50 rfl (lv_at hl 1 rfl) ?_
    refine lv_iload_n hx hb dX11_feel_51 rfl (lv_at hl 0 rfl) ?_
    obtain ⟨r_21, hr_20, hq⟩ := bk_bd_some hq
    refine bk_callS (rest := [.int (100 * r_19)]) (As := [.int r_13, .int r_17]) (ro := (some (.int r_21))) (Y1 := Y) (V1 := V) C hH hl.1 (c_J9_max_7cf53 hr_20) mc_J9_max_7cf53 st_J9_max_7cf53 lk_RX11_314 rfl ⟨rfl, rfl⟩ ⟨by decide, by decide⟩ rfl (Nat.le_of_ble_eq_true rfl) dX11_feel_52 ⟨by decide, by decide⟩ (fun H locs hH => ?_)
    refine lv_iadd hx hb dX11_feel_55 ?_
    refine vx_ret ?_
    cases hq
    exact bk_iret C hH dX11_feel_56
set_option maxRecDepth 100000 in
theorem c_X11_feel {l : Launch} {G : bk_G} {N : Nat} {Y : bk_Lay} {V : bk_Val} (hst : l.stackTraces = false) {a0 : Nat} {x1 : Int32} {out : Nat ⊕ (Int32)} (hq : q_X11_feel N Y V a0 x1 = some out) : vx_Met l yX11_feel (bk_ws yX11_feel cX11_feel 4 (some FieldType.int)) rm_X11_feel (bk_Pc G [.ref a0, .int x1] Y V) (bk_QX (fun (o : Int32) => bk_Q G (some (.int o)) Y V) out) (bk_XC G Y V out) 1 6 (bk_A G) :=
  bk_metx (by decide) (Nat.le_of_ble_eq_true rfl) (fun p e s m args below meth c ls C hT9 hH hl => w_X11_feel C hst hT9 _ _ _ _ _ _ _ hl hH hq)

def rm_X11_minutesRidden : Room := bk_rm 0 0 0 0
set_option maxRecDepth 100000 in
set_option maxHeartbeats 4000000 in
theorem w_X11_minutesRidden (C : bk_C G p s m args meth c cX11_minutesRidden RX11 2 (some FieldType.int)) : ∀ (V : bk_Val) (x0 : Int32) (x1 : Int32) (H : Heap) (locs : List Loc) (ls : Array Slot) (out : Int32), lv_has ls 2 [(0, .int x0), (1, .int x1)] → bk_H G Y V s.heap H locs → q_X11_minutesRidden N Y V x0 x1 = some out → W p l e rm_X11_minutesRidden s m args below meth c H locs 0 0 (MQ below (bk_Q G (some (.int out)) Y V) args s 0 0 (bk_A G)) (F0 m 0 ls []) := by
  have hx := C.1
  have hb := C.2.1
  intro V x0 x1 H locs ls out hl hH hq
  unfold q_X11_minutesRidden at hq
  refine lv_bipush (v := 6) hx hb dX11_minutesRidden_0 (by decide) ?_
  refine lv_iload_n hx hb dX11_minutesRidden_2 rfl (lv_at hl 0 rfl) ?_
  refine lv_imul hx hb dX11_minutesRidden_3 ?_
  refine lv_iconst (v := 3) hx hb dX11_minutesRidden_4 (by decide) ?_
  refine lv_iload_n hx hb dX11_minutesRidden_5 rfl (lv_at hl 1 rfl) ?_
  refine lv_imul hx hb dX11_minutesRidden_6 ?_
  refine lv_iadd hx hb dX11_minutesRidden_7 ?_
  cases hq
  exact bk_iret C hH dX11_minutesRidden_8
set_option maxRecDepth 100000 in
theorem c_X11_minutesRidden {l : Launch} {G : bk_G} {N : Nat} {Y : bk_Lay} {V : bk_Val} {x0 : Int32} {x1 : Int32} {out : Int32} (hq : q_X11_minutesRidden N Y V x0 x1 = some out) : Met l yX11_minutesRidden (bk_ws yX11_minutesRidden cX11_minutesRidden 2 (some FieldType.int)) rm_X11_minutesRidden (bk_Pc G [.int x0, .int x1] Y V) (bk_Q G (some (.int out)) Y V) 0 0 (bk_A G) :=
  bk_met (by decide) (Nat.le_of_ble_eq_true rfl) (fun p e s m args below meth c ls C hnm hH hl => w_X11_minutesRidden C _ _ _ _ _ _ _ hl hH hq)

def rm_X11_refuseAct : Room := bk_rm 0 0 0 0
set_option maxRecDepth 100000 in
set_option maxHeartbeats 4000000 in
theorem w_X11_refuseAct (C : bk_C G p s m args meth c cX11_refuseAct RX11 1 (some FieldType.int)) : ∀ (V : bk_Val) (a0 : Nat) (H : Heap) (locs : List Loc) (ls : Array Slot) (out : Int32 × bk_Val), lv_has ls 1 [(0, .ref a0)] → bk_H G Y V s.heap H locs → q_X11_refuseAct N Y V a0 = some out → W p l e rm_X11_refuseAct s m args below meth c H locs 0 0 (MQ below (bk_Q G (some (.int out.1)) Y out.2) args s 0 0 (bk_A G)) (F0 m 0 ls []) := by
  have hx := C.1
  have hb := C.2.1
  intro V a0 H locs ls out hl hH hq
  unfold q_X11_refuseAct at hq
  refine lv_aload_n hx hb dX11_refuseAct_0 rfl (lv_at hl 0 rfl) ?_
  refine lv_dup hx hb dX11_refuseAct_1 rfl ?_
  obtain ⟨hs_1, hq⟩ := bk_ck_some hq
  refine bk_geti C hH fl_RX11_150 hs_1 rfl dX11_refuseAct_2 ?_
  refine lv_iconst (v := 1) hx hb dX11_refuseAct_5 (by decide) ?_
  refine lv_iadd hx hb dX11_refuseAct_6 ?_
  refine bk_puti C hH fp_RX11_150 (fun h => by cases h) hs_1 rfl dX11_refuseAct_7 (fun V_2 H locs e_3 hH => ?_)
  have hq := bk_let_eq e_3 hq
  refine lv_iconst (v := (-1)) hx hb dX11_refuseAct_10 (by decide) ?_
  cases hq
  exact bk_iret C hH dX11_refuseAct_11
set_option maxRecDepth 100000 in
theorem c_X11_refuseAct {l : Launch} {G : bk_G} {N : Nat} {Y : bk_Lay} {V : bk_Val} {a0 : Nat} {out : Int32 × bk_Val} (hq : q_X11_refuseAct N Y V a0 = some out) : Met l yX11_refuseAct (bk_ws yX11_refuseAct cX11_refuseAct 1 (some FieldType.int)) rm_X11_refuseAct (bk_Pc G [.ref a0] Y V) (bk_Q G (some (.int out.1)) Y out.2) 0 0 (bk_A G) :=
  bk_met (by decide) (Nat.le_of_ble_eq_true rfl) (fun p e s m args below meth c ls C hnm hH hl => w_X11_refuseAct C _ _ _ _ _ _ hl hH hq)

def rm_X11_sweep : Room := bk_rm 9 2 12 220
set_option maxRecDepth 100000 in
set_option maxHeartbeats 4000000 in
theorem w_X11_sweep (C : bk_C G p s m args meth c cX11_sweep RX11 5 (some FieldType.int)) (hst : l.stackTraces = false) (hT9 : ∀ x ∈ c.exceptionTable.toList, False) : ∀ (Y : bk_Lay) (V : bk_Val) (a0 : Nat) (x1 : Int32) (x2 : Int32) (x3 : Int32) (x4 : Int32) (H : Heap) (locs : List Loc) (ls : Array Slot) (out : Nat ⊕ (Int32 × bk_Lay × bk_Val)), lv_has ls 5 [(0, .ref a0), (1, .int x1), (2, .int x2), (3, .int x3), (4, .int x4)] → bk_H G Y V s.heap H locs → q_X11_sweep N Y V a0 x1 x2 x3 x4 = some out → W p l e rm_X11_sweep s m args below meth c H locs 0 0 (vx_MQ below (bk_QX (fun (o : Int32 × bk_Lay × bk_Val) => bk_Q G (some (.int o.1)) o.2.1 o.2.2) out) (bk_XC G Y V out) args s 2 12 (bk_A G)) (F0 m 0 ls []) := by
  have hx := C.1
  have hb := C.2.1
  intro Y V a0 x1 x2 x3 x4 H locs ls out hl hH hq
  unfold q_X11_sweep at hq
  refine lv_iload hx hb dX11_sweep_0 (lv_at hl 4 rfl) ?_
  refine lv_iconst (v := 0) hx hb dX11_sweep_2 (by decide) ?_
  refine lv_iconst (v := 1) hx hb dX11_sweep_3 (by decide) ?_
  obtain ⟨r_2, hr_1, hq⟩ := bk_bd_some hq
  refine bk_callS (rest := []) (As := [.int x4, .int 0, .int 1]) (ro := (some (.int r_2))) (Y1 := Y) (V1 := V) C hH hl.1 (c_X11_isWithin hr_1) mc_X11_isWithin st_X11_isWithin lk_RX11_78 rfl ⟨rfl, rfl⟩ ⟨by decide, by decide⟩ rfl (Nat.le_of_ble_eq_true rfl) dX11_sweep_4 ⟨by decide, by decide⟩ (fun H locs hH => ?_)
  rcases bk_bdx_cases hq with ⟨x9_4, hr_3, ho_5⟩ | ⟨u7, hr_3, hq⟩
  · exact bk_callSt (rest := []) (As := [.int r_2]) (e9 := x9_4) C hT9 hH hl.1 (c_X11_needElement hst hr_3) ho_5 mc_X11_needElement st_X11_needElement ml_RX11_214 rfl ⟨rfl, rfl⟩ ⟨by decide, by decide⟩ rfl (Nat.le_of_ble_eq_true rfl) dX11_sweep_7 ⟨by decide, by decide⟩ (by decide) (by decide)
  · refine bk_callSr (rest := []) (As := [.int r_2]) (o1 := u7) (ro := none) (Y1 := Y) (V1 := V) rfl C hH hl.1 (c_X11_needElement hst hr_3) mc_X11_needElement st_X11_needElement ml_RX11_214 rfl ⟨rfl, rfl⟩ ⟨by decide, by decide⟩ rfl (Nat.le_of_ble_eq_true rfl) dX11_sweep_7 ⟨by decide, by decide⟩ (fun H locs hH => ?_)
    refine W.widen (k := 1) (n := 6) (by decide) (by decide) ?_
    refine lv_iload_n hx hb dX11_sweep_10 rfl (lv_at hl 3 rfl) ?_
    refine lv_iconst (v := 1) hx hb dX11_sweep_11 (by decide) ?_
    refine lv_bipush (v := 60) hx hb dX11_sweep_12 (by decide) ?_
    obtain ⟨r_7, hr_6, hq⟩ := bk_bd_some hq
    refine bk_callS (rest := []) (As := [.int x3, .int 1, .int 60]) (ro := (some (.int r_7))) (Y1 := Y) (V1 := V) C hH hl.1 (c_X11_isWithin hr_6) mc_X11_isWithin st_X11_isWithin lk_RX11_78 rfl ⟨rfl, rfl⟩ ⟨by decide, by decide⟩ rfl (Nat.le_of_ble_eq_true rfl) dX11_sweep_14 ⟨by decide, by decide⟩ (fun H locs hH => ?_)
    rcases bk_bdx_cases hq with ⟨x9_9, hr_8, ho_10⟩ | ⟨u17, hr_8, hq⟩
    · exact bk_callSt (rest := []) (As := [.int r_7]) (e9 := x9_9) C hT9 hH hl.1 (c_X11_needArgument hst hr_8) ho_10 mc_X11_needArgument st_X11_needArgument ml_RX11_82 rfl ⟨rfl, rfl⟩ ⟨by decide, by decide⟩ rfl (Nat.le_of_ble_eq_true rfl) dX11_sweep_17 ⟨by decide, by decide⟩ (by decide) (by decide)
    · refine bk_callSr (rest := []) (As := [.int r_7]) (o1 := u17) (ro := none) (Y1 := Y) (V1 := V) rfl C hH hl.1 (c_X11_needArgument hst hr_8) mc_X11_needArgument st_X11_needArgument ml_RX11_82 rfl ⟨rfl, rfl⟩ ⟨by decide, by decide⟩ rfl (Nat.le_of_ble_eq_true rfl) dX11_sweep_17 ⟨by decide, by decide⟩ (fun H locs hH => ?_)
      refine W.widen (k := 2) (n := 12) (by decide) (by decide) ?_
      refine lv_aload_n hx hb dX11_sweep_20 rfl (lv_at hl 0 rfl) ?_
      refine lv_iload_n hx hb dX11_sweep_21 rfl (lv_at hl 1 rfl) ?_
      refine lv_aload_n hx hb dX11_sweep_22 rfl (lv_at hl 0 rfl) ?_
      refine lv_iload_n hx hb dX11_sweep_23 rfl (lv_at hl 2 rfl) ?_
      obtain ⟨hs_13, hq⟩ := bk_ck_some hq
      obtain ⟨r_12, hr_11, hq⟩ := bk_bd_some hq
      refine bk_callV (rest := [.int x1, .ref a0]) (As := [.int x2]) (ro := (some (.int r_12))) (Y1 := Y) (V1 := V) C hH hl.1 (c_X11_leakingHoles hr_11) mc_X11_leakingHoles mv_X11_leakingHoles lk_RX11_181 hs_13 rfl rfl ⟨rfl, rfl⟩ ⟨by decide, by decide⟩ rfl (Nat.le_of_ble_eq_true rfl) dX11_sweep_24 ⟨by decide, by decide⟩ (fun H locs hH => ?_)
      refine lv_iload_n hx hb dX11_sweep_27 rfl (lv_at hl 3 rfl) ?_
      obtain ⟨r_15, Y_16, V_17, hr_14, hq⟩ := bk_bd3_some hq
      refine bk_callV (rest := []) (As := [.int x1, .int r_12, .int x3]) (ro := (some (.int r_15))) (Y1 := Y_16) (V1 := V_17) C hH hl.1 (c_X11_findBy hr_14) mc_X11_findBy mv_X11_findBy lk_RX11_306 hs_13 rfl rfl ⟨rfl, rfl⟩ ⟨by decide, by decide⟩ rfl (Nat.le_of_ble_eq_true rfl) dX11_sweep_28 ⟨by decide, by decide⟩ (fun H locs hH => ?_)
      refine lv_iload hx hb dX11_sweep_31 (lv_at hl 4 rfl) ?_
      obtain ⟨r_19, hr_18, hq⟩ := bk_bd_some hq
      refine bk_callS (rest := []) (As := [.int r_15, .int x4]) (ro := (some (.int r_19))) (Y1 := Y_16) (V1 := V_17) C hH hl.1 (c_X11_partOfFind hr_18) mc_X11_partOfFind st_X11_partOfFind lk_RX11_310 rfl ⟨rfl, rfl⟩ ⟨by decide, by decide⟩ rfl (Nat.le_of_ble_eq_true rfl) dX11_sweep_33 ⟨by decide, by decide⟩ (fun H locs hH => ?_)
      refine vx_ret ?_
      cases hq
      exact bk_iret C hH dX11_sweep_36
set_option maxRecDepth 100000 in
theorem c_X11_sweep {l : Launch} {G : bk_G} {N : Nat} {Y : bk_Lay} {V : bk_Val} (hst : l.stackTraces = false) {a0 : Nat} {x1 : Int32} {x2 : Int32} {x3 : Int32} {x4 : Int32} {out : Nat ⊕ (Int32 × bk_Lay × bk_Val)} (hq : q_X11_sweep N Y V a0 x1 x2 x3 x4 = some out) : vx_Met l yX11_sweep (bk_ws yX11_sweep cX11_sweep 5 (some FieldType.int)) rm_X11_sweep (bk_Pc G [.ref a0, .int x1, .int x2, .int x3, .int x4] Y V) (bk_QX (fun (o : Int32 × bk_Lay × bk_Val) => bk_Q G (some (.int o.1)) o.2.1 o.2.2) out) (bk_XC G Y V out) 2 12 (bk_A G) :=
  bk_metx (by decide) (Nat.le_of_ble_eq_true rfl) (fun p e s m args below meth c ls C hT9 hH hl => w_X11_sweep C hst hT9 _ _ _ _ _ _ _ _ _ _ _ hl hH hq)

def rm_X11_keepAct : Room := bk_rm 2 1 5 49
set_option maxRecDepth 100000 in
set_option maxHeartbeats 4000000 in
theorem w_X11_keepAct (C : bk_C G p s m args meth c cX11_keepAct RX11 5 (none : Option FieldType)) : ∀ (Y : bk_Lay) (V : bk_Val) (a0 : Nat) (x1 : Int32) (x2 : Int32) (x3 : Int32) (a4 : Nat) (H : Heap) (locs : List Loc) (ls : Array Slot) (out : bk_Lay × bk_Val), lv_has ls 5 [(0, .ref a0), (1, .int x1), (2, .int x2), (3, .int x3), (4, .ref a4)] → bk_H G Y V s.heap H locs → q_X11_keepAct N Y V a0 x1 x2 x3 a4 = some out → W p l e rm_X11_keepAct s m args below meth c H locs 0 0 (MQ below (bk_Q G none out.1 out.2) args s 1 5 (bk_A G)) (F0 m 0 ls []) := by
  have hx := C.1
  have hb := C.2.1
  intro Y V a0 x1 x2 x3 a4 H locs ls out hl hH hq
  unfold q_X11_keepAct at hq
  refine lv_aload_n hx hb dX11_keepAct_0 rfl (lv_at hl 0 rfl) ?_
  refine bk_new C hH ok_5 cl_RX11_58 ib_RX6 in_RX6 (by decide) (by decide) dX11_keepAct_1 (fun Y_2 V_3 H e_4 e_5 hH => ?_)
  have hq := bk_let_eq e_4 hq
  have hq := bk_let_eq e_5 hq
  obtain ⟨b_1, e_6⟩ : ∃ z, z = bk_sz Y := ⟨_, rfl⟩
  have hq := bk_let_eq e_6 hq
  rw [← e_6]
  refine W.widen (k := 1) (n := 5) (by decide) (by decide) ?_
  refine lv_dup hx hb dX11_keepAct_4 rfl ?_
  refine lv_aload_n hx hb dX11_keepAct_5 rfl (lv_at hl 0 rfl) ?_
  obtain ⟨hs_7, hq⟩ := bk_ck_some hq
  obtain ⟨b_8, hr_9, hq⟩ := bk_bd_some hq
  refine bk_getr C hH fl_RX11_63 hs_7 rfl hr_9 dX11_keepAct_6 ?_
  refine lv_iload_n hx hb dX11_keepAct_9 rfl (lv_at hl 1 rfl) ?_
  refine lv_iload_n hx hb dX11_keepAct_10 rfl (lv_at hl 2 rfl) ?_
  refine lv_iload_n hx hb dX11_keepAct_11 rfl (lv_at hl 3 rfl) ?_
  refine lv_aload hx hb dX11_keepAct_12 (lv_at hl 4 rfl) ?_
  obtain ⟨Y_11, V_12, hr_10, hq⟩ := bk_bd2_some hq
  refine bk_callI (b := b_1) (rest := [.ref b_1, .ref a0]) (As := [.ref b_8, .int x1, .int x2, .int x3, .ref a4]) (Y1 := Y_11) (V1 := V_12) C hH hl.1 (c_X6_init hr_10) mc_X6_init im_X6_init rfl lk_RX11_392 rfl ⟨rfl, rfl⟩ ⟨by decide, by decide⟩ rfl (Nat.le_of_ble_eq_true rfl) dX11_keepAct_14 ⟨by decide, by decide⟩ (fun H locs hH => ?_)
  obtain ⟨hs_13, hq⟩ := bk_ck_some hq
  refine bk_putr C hH fp_RX11_63 (fun h => by cases h) hs_13 rfl rfl rfl dX11_keepAct_17 (fun Y_14 H locs e_15 hH => ?_)
  have hq := bk_let_eq e_15 hq
  refine lv_aload_n hx hb dX11_keepAct_20 rfl (lv_at hl 0 rfl) ?_
  refine lv_aload_n hx hb dX11_keepAct_21 rfl (lv_at hl 0 rfl) ?_
  refine bk_geti C hH fl_RX11_99 (by rw [e_15]; exact hs_13) rfl dX11_keepAct_22 ?_
  refine lv_iconst (v := 1) hx hb dX11_keepAct_25 (by decide) ?_
  refine lv_iadd hx hb dX11_keepAct_26 ?_
  refine lv_bipush (v := 40) hx hb dX11_keepAct_27 (by decide) ?_
  obtain ⟨r_17, hr_16, hq⟩ := bk_bd_some hq
  refine bk_callS (rest := [.ref a0]) (As := [.int ((bk_rI V_12 a0 8) + 1), .int 40]) (ro := (some (.int r_17))) (Y1 := Y_14) (V1 := V_12) C hH hl.1 (c_J9_min_7cf53 hr_16) mc_J9_min_7cf53 st_J9_min_7cf53 lk_RX11_357 rfl ⟨rfl, rfl⟩ ⟨by decide, by decide⟩ rfl (Nat.le_of_ble_eq_true rfl) dX11_keepAct_29 ⟨by decide, by decide⟩ (fun H locs hH => ?_)
  refine bk_puti C hH fp_RX11_99 (fun h => by cases h) (by rw [e_15]; exact hs_13) rfl dX11_keepAct_32 (fun V_18 H locs e_19 hH => ?_)
  have hq := bk_let_eq e_19 hq
  cases hq
  exact bk_vret C hH dX11_keepAct_35
set_option maxRecDepth 100000 in
theorem c_X11_keepAct {l : Launch} {G : bk_G} {N : Nat} {Y : bk_Lay} {V : bk_Val} {a0 : Nat} {x1 : Int32} {x2 : Int32} {x3 : Int32} {a4 : Nat} {out : bk_Lay × bk_Val} (hq : q_X11_keepAct N Y V a0 x1 x2 x3 a4 = some out) : Met l yX11_keepAct (bk_ws yX11_keepAct cX11_keepAct 5 (none : Option FieldType)) rm_X11_keepAct (bk_Pc G [.ref a0, .int x1, .int x2, .int x3, .ref a4] Y V) (bk_Q G none out.1 out.2) 1 5 (bk_A G) :=
  bk_met (by decide) (Nat.le_of_ble_eq_true rfl) (fun p e s m args below meth c ls C hnm hH hl => w_X11_keepAct C _ _ _ _ _ _ _ _ _ _ _ hl hH hq)

def rm_X11_minutes : Room := bk_rm 5 1 5 116
set_option maxRecDepth 100000 in
set_option maxHeartbeats 4000000 in
theorem w_X11_minutes_34 (C : bk_C G p s m args meth c cX11_minutes RX11 6 (some FieldType.int)) : ∀ (n : Nat), ∀ (Y : bk_Lay) (V : bk_Val) (a0 : Nat) (x1 : Int32) (x2 : Int32) (x3 : Int32) (x4 : Int32) (x5 : Int32) (H : Heap) (locs : List Loc) (ls : Array Slot) (out : Int32 × bk_Lay × bk_Val), lv_has ls 6 [(0, .ref a0), (1, .int x1), (2, .int x2), (3, .int x3), (4, .int x4), (5, .int x5)] → bk_H G Y V s.heap H locs → q_X11_minutes_34 N n Y V a0 x1 x2 x3 x4 x5 = some out → W p l e rm_X11_minutes s m args below meth c H locs 0 0 (MQ below (bk_Q G (some (.int out.1)) out.2.1 out.2.2) args s 1 5 (bk_A G)) (F0 m 34 ls []) := by
  have hx := C.1
  have hb := C.2.1
  intro n
  induction n with
  | zero =>
    intro Y V a0 x1 x2 x3 x4 x5 H locs ls out hl hH hq
    exact nomatch (show (none : Option (Int32 × bk_Lay × bk_Val)) = some out from hq)
  | succ n ih =>
    intro Y V a0 x1 x2 x3 x4 x5 H locs ls out hl hH hq
    unfold q_X11_minutes_34 at hq
    refine lv_iload hx hb dX11_minutes_34 (lv_at hl 5 rfl) ?_
    refine lv_iload_n hx hb dX11_minutes_36 rfl (lv_at hl 1 rfl) ?_
    refine lv_icmp_ge (tgt := 72) hx hb dX11_minutes_37 (by decide) (fun hc_20 => ?_) (fun hc_20 => ?_)
    · rw [if_pos hc_20] at hq
      refine lv_aload_n hx hb dX11_minutes_72 rfl (lv_at hl 0 rfl) ?_
      refine lv_iload hx hb dX11_minutes_73 (lv_at hl 4 rfl) ?_
      refine lv_aload_n hx hb dX11_minutes_75 rfl (lv_at hl 0 rfl) ?_
      obtain ⟨hs_1, hq⟩ := bk_ck_some hq
      obtain ⟨b_2, hr_3, hq⟩ := bk_bd_some hq
      refine bk_getr C hH fl_RX11_63 hs_1 rfl hr_3 dX11_minutes_76 ?_
      obtain ⟨hs_4, hq⟩ := bk_ck_some hq
      refine bk_geti C hH fl_RX11_147 hs_4 rfl dX11_minutes_79 ?_
      refine lv_iload_n hx hb dX11_minutes_82 rfl (lv_at hl 1 rfl) ?_
      refine lv_iadd hx hb dX11_minutes_83 ?_
      refine lv_aload_n hx hb dX11_minutes_84 rfl (lv_at hl 0 rfl) ?_
      refine bk_getr C hH fl_RX11_63 hs_1 rfl hr_3 dX11_minutes_85 ?_
      refine bk_geti C hH fl_RX11_176 hs_4 rfl dX11_minutes_88 ?_
      refine lv_aload_n hx hb dX11_minutes_91 rfl (lv_at hl 0 rfl) ?_
      refine bk_getr C hH fl_RX11_63 hs_1 rfl hr_3 dX11_minutes_92 ?_
      obtain ⟨b_5, hr_6, hq⟩ := bk_bd_some hq
      refine bk_getr C hH fl_RX11_193 hs_4 rfl hr_6 dX11_minutes_95 ?_
      obtain ⟨Y_8, V_9, hr_7, hq⟩ := bk_bd2_some hq
      refine bk_callV (rest := []) (As := [.int x4, .int ((bk_rI V b_2 2) + x1), .int (bk_rI V b_2 3), .ref b_5]) (ro := none) (Y1 := Y_8) (V1 := V_9) C hH hl.1 (c_X11_keepAct hr_7) mc_X11_keepAct mv_X11_keepAct lk_RX11_197 hs_1 rfl rfl ⟨rfl, rfl⟩ ⟨by decide, by decide⟩ rfl (Nat.le_of_ble_eq_true rfl) dX11_minutes_98 ⟨by decide, by decide⟩ (fun H locs hH => ?_)
      refine W.widen (k := 1) (n := 5) (by decide) (by decide) ?_
      refine lv_iload hx hb dX11_minutes_101 (lv_at hl 4 rfl) ?_
      cases hq
      exact bk_iret C hH dX11_minutes_103
    · rw [if_neg hc_20] at hq
      refine lv_iload hx hb dX11_minutes_40 (lv_at hl 4 rfl) ?_
      refine lv_aload_n hx hb dX11_minutes_42 rfl (lv_at hl 0 rfl) ?_
      obtain ⟨hs_10, hq⟩ := bk_ck_some hq
      obtain ⟨b_11, hr_12, hq⟩ := bk_bd_some hq
      refine bk_getr C hH fl_RX11_33 hs_10 rfl hr_12 dX11_minutes_43 ?_
      refine lv_iload_n hx hb dX11_minutes_46 rfl (lv_at hl 3 rfl) ?_
      refine lv_iload hx hb dX11_minutes_47 (lv_at hl 4 rfl) ?_
      refine lv_aload_n hx hb dX11_minutes_49 rfl (lv_at hl 0 rfl) ?_
      obtain ⟨b_13, hr_14, hq⟩ := bk_bd_some hq
      refine bk_getr C hH fl_RX11_63 hs_10 rfl hr_14 dX11_minutes_50 ?_
      obtain ⟨hs_15, hq⟩ := bk_ck_some hq
      refine bk_geti C hH fl_RX11_147 hs_15 rfl dX11_minutes_53 ?_
      refine lv_iload hx hb dX11_minutes_56 (lv_at hl 5 rfl) ?_
      refine lv_iadd hx hb dX11_minutes_58 ?_
      refine lv_iload_n hx hb dX11_minutes_59 rfl (lv_at hl 2 rfl) ?_
      obtain ⟨hs_19, hq⟩ := bk_ck_some hq
      obtain ⟨r_17, V_18, hr_16, hq⟩ := bk_bd2_some hq
      refine bk_callV (rest := [.int x4]) (As := [.int x3, .int x4, .int ((bk_rI V b_13 2) + x5), .int x2]) (ro := (some (.int r_17))) (Y1 := Y) (V1 := V_18) C hH hl.1 (c_X5_goneBy hr_16) mc_X5_goneBy mv_X5_goneBy lk_RX11_185 hs_19 rfl rfl ⟨rfl, rfl⟩ ⟨by decide, by decide⟩ rfl (Nat.le_of_ble_eq_true rfl) dX11_minutes_60 ⟨by decide, by decide⟩ (fun H locs hH => ?_)
      refine lv_isub hx hb dX11_minutes_63 ?_
      refine lv_istore (lv' := [(4, .int (x4 - r_17)), (0, .ref a0), (1, .int x1), (2, .int x2), (3, .int x3), (5, .int x5)]) hx hb dX11_minutes_64 hl (by decide) rfl (fun ls hl => ?_)
      refine lv_iinc (v := (x5 + 1)) (lv' := [(5, .int (x5 + 1)), (4, .int (x4 - r_17)), (0, .ref a0), (1, .int x1), (2, .int x2), (3, .int x3)]) hx hb dX11_minutes_66 hl (k := 5) rfl rfl (by decide) rfl (fun ls hl => ?_)
      refine lv_goto (tgt := 34) hx hb dX11_minutes_69 (by decide) ?_
      exact ih _ _ _ _ _ _ _ _ _ _ _ _ (lv_sub hl [2, 3, 4, 5, 1, 0] rfl) hH hq

set_option maxRecDepth 100000 in
set_option maxHeartbeats 4000000 in
theorem w_X11_minutes (C : bk_C G p s m args meth c cX11_minutes RX11 6 (some FieldType.int)) : ∀ (Y : bk_Lay) (V : bk_Val) (a0 : Nat) (x1 : Int32) (x2 : Int32) (H : Heap) (locs : List Loc) (ls : Array Slot) (out : Int32 × bk_Lay × bk_Val), lv_has ls 6 [(0, .ref a0), (1, .int x1), (2, .int x2)] → bk_H G Y V s.heap H locs → q_X11_minutes N Y V a0 x1 x2 = some out → W p l e rm_X11_minutes s m args below meth c H locs 0 0 (MQ below (bk_Q G (some (.int out.1)) out.2.1 out.2.2) args s 1 5 (bk_A G)) (F0 m 0 ls []) := by
  have hx := C.1
  have hb := C.2.1
  intro Y V a0 x1 x2 H locs ls out hl hH hq
  unfold q_X11_minutes at hq
  refine lv_iload_n hx hb dX11_minutes_0 rfl (lv_at hl 1 rfl) ?_
  refine lv_iconst (v := 1) hx hb dX11_minutes_1 (by decide) ?_
  refine lv_sipush (v := 600) hx hb dX11_minutes_2 (by decide) ?_
  obtain ⟨r_22, hr_21, hq⟩ := bk_bd_some hq
  refine bk_callS (rest := []) (As := [.int x1, .int 1, .int 600]) (ro := (some (.int r_22))) (Y1 := Y) (V1 := V) C hH hl.1 (c_X11_isWithin hr_21) mc_X11_isWithin st_X11_isWithin lk_RX11_78 rfl ⟨rfl, rfl⟩ ⟨by decide, by decide⟩ rfl (Nat.le_of_ble_eq_true rfl) dX11_minutes_5 ⟨by decide, by decide⟩ (fun H locs hH => ?_)
  refine lv_if_ne (tgt := 16) hx hb dX11_minutes_8 (by decide) (fun hc_33 => ?_) (fun hc_33 => ?_)
  · rw [if_neg hc_33] at hq
    refine lv_aload_n hx hb dX11_minutes_16 rfl (lv_at hl 0 rfl) ?_
    refine lv_iload_n hx hb dX11_minutes_17 rfl (lv_at hl 2 rfl) ?_
    obtain ⟨hs_25, hq⟩ := bk_ck_some hq
    obtain ⟨r_24, hr_23, hq⟩ := bk_bd_some hq
    refine bk_callV (rest := []) (As := [.int x2]) (ro := (some (.int r_24))) (Y1 := Y) (V1 := V) C hH hl.1 (c_X11_leakingHoles hr_23) mc_X11_leakingHoles mv_X11_leakingHoles lk_RX11_181 hs_25 rfl rfl ⟨rfl, rfl⟩ ⟨by decide, by decide⟩ rfl (Nat.le_of_ble_eq_true rfl) dX11_minutes_18 ⟨by decide, by decide⟩ (fun H locs hH => ?_)
    refine lv_istore_n (lv' := [(3, .int r_24), (0, .ref a0), (1, .int x1), (2, .int x2)]) hx hb dX11_minutes_21 rfl hl (by decide) rfl (fun ls hl => ?_)
    refine lv_aload_n hx hb dX11_minutes_22 rfl (lv_at hl 1 rfl) ?_
    obtain ⟨b_26, hr_27, hq⟩ := bk_bd_some hq
    refine bk_getr C hH fl_RX11_63 hs_25 rfl hr_27 dX11_minutes_23 ?_
    obtain ⟨hs_28, hq⟩ := bk_ck_some hq
    refine bk_geti C hH fl_RX11_144 hs_28 rfl dX11_minutes_26 ?_
    refine lv_istore (lv' := [(4, .int (bk_rI V b_26 1)), (3, .int r_24), (0, .ref a0), (1, .int x1), (2, .int x2)]) hx hb dX11_minutes_29 hl (by decide) rfl (fun ls hl => ?_)
    refine lv_iconst (v := 0) hx hb dX11_minutes_31 (by decide) ?_
    refine lv_istore (lv' := [(5, .int 0), (4, .int (bk_rI V b_26 1)), (3, .int r_24), (0, .ref a0), (1, .int x1), (2, .int x2)]) hx hb dX11_minutes_32 hl (by decide) rfl (fun ls hl => ?_)
    exact w_X11_minutes_34 C _ _ _ _ _ _ _ _ _ _ _ _ _ (lv_sub hl [3, 4, 5, 2, 1, 0] rfl) hH hq
  · rw [if_pos hc_33] at hq
    refine lv_aload_n hx hb dX11_minutes_11 rfl (lv_at hl 0 rfl) ?_
    obtain ⟨hs_32, hq⟩ := bk_ck_some hq
    obtain ⟨r_30, V_31, hr_29, hq⟩ := bk_bd2_some hq
    refine bk_callV (rest := []) (As := []) (ro := (some (.int r_30))) (Y1 := Y) (V1 := V_31) C hH hl.1 (c_X11_refuseAct hr_29) mc_X11_refuseAct mv_X11_refuseAct lk_RX11_189 hs_32 rfl rfl ⟨rfl, rfl⟩ ⟨by decide, by decide⟩ rfl (Nat.le_of_ble_eq_true rfl) dX11_minutes_12 ⟨by decide, by decide⟩ (fun H locs hH => ?_)
    refine W.widen (k := 1) (n := 5) (by decide) (by decide) ?_
    cases hq
    exact bk_iret C hH dX11_minutes_15
set_option maxRecDepth 100000 in
theorem c_X11_minutes {l : Launch} {G : bk_G} {N : Nat} {Y : bk_Lay} {V : bk_Val} {a0 : Nat} {x1 : Int32} {x2 : Int32} {out : Int32 × bk_Lay × bk_Val} (hq : q_X11_minutes N Y V a0 x1 x2 = some out) : Met l yX11_minutes (bk_ws yX11_minutes cX11_minutes 6 (some FieldType.int)) rm_X11_minutes (bk_Pc G [.ref a0, .int x1, .int x2] Y V) (bk_Q G (some (.int out.1)) out.2.1 out.2.2) 1 5 (bk_A G) :=
  bk_met (by decide) (Nat.le_of_ble_eq_true rfl) (fun p e s m args below meth c ls C hnm hH hl => w_X11_minutes C _ _ _ _ _ _ _ _ _ hl hH hq)

def rm_X11_needHole : Room := bk_rm 9 1 6 220
set_option maxRecDepth 100000 in
set_option maxHeartbeats 4000000 in
theorem w_X11_needHole (C : bk_C G p s m args meth c cX11_needHole RX11 2 (none : Option FieldType)) (hst : l.stackTraces = false) (hT9 : ∀ x ∈ c.exceptionTable.toList, False) : ∀ (V : bk_Val) (a0 : Nat) (x1 : Int32) (H : Heap) (locs : List Loc) (ls : Array Slot) (out : Nat ⊕ (Unit)), lv_has ls 2 [(0, .ref a0), (1, .int x1)] → bk_H G Y V s.heap H locs → q_X11_needHole N Y V a0 x1 = some out → W p l e rm_X11_needHole s m args below meth c H locs 0 0 (vx_MQ below (bk_QX (fun (o : Unit) => bk_Q G none Y V) out) (bk_XC G Y V out) args s 1 6 (bk_A G)) (F0 m 0 ls []) := by
  have hx := C.1
  have hb := C.2.1
  intro V a0 x1 H locs ls out hl hH hq
  unfold q_X11_needHole at hq
  refine lv_iload_n hx hb dX11_needHole_0 rfl (lv_at hl 1 rfl) ?_
  refine lv_iconst (v := 0) hx hb dX11_needHole_1 (by decide) ?_
  refine lv_aload_n hx hb dX11_needHole_2 rfl (lv_at hl 0 rfl) ?_
  obtain ⟨hs_1, hq⟩ := bk_ck_some hq
  obtain ⟨b_2, hr_3, hq⟩ := bk_bd_some hq
  refine bk_getr C hH fl_RX11_33 hs_1 rfl hr_3 dX11_needHole_3 ?_
  obtain ⟨hs_4, hq⟩ := bk_ck_some hq
  obtain ⟨b_5, hr_6, hq⟩ := bk_bd_some hq
  refine bk_getr C hH fl_RX11_121 hs_4 rfl hr_6 dX11_needHole_6 ?_
  obtain ⟨hs_7, hq⟩ := bk_ck_some hq
  refine bk_geti C hH fl_RX11_125 hs_7 rfl dX11_needHole_9 ?_
  refine lv_iconst (v := 1) hx hb dX11_needHole_12 (by decide) ?_
  refine lv_isub hx hb dX11_needHole_13 ?_
  obtain ⟨r_9, hr_8, hq⟩ := bk_bd_some hq
  refine bk_callS (rest := []) (As := [.int x1, .int 0, .int ((bk_rI V b_5 4) - 1)]) (ro := (some (.int r_9))) (Y1 := Y) (V1 := V) C hH hl.1 (c_X11_isWithin hr_8) mc_X11_isWithin st_X11_isWithin lk_RX11_78 rfl ⟨rfl, rfl⟩ ⟨by decide, by decide⟩ rfl (Nat.le_of_ble_eq_true rfl) dX11_needHole_14 ⟨by decide, by decide⟩ (fun H locs hH => ?_)
  rcases bk_bdx_cases hq with ⟨x9_11, hr_10, ho_12⟩ | ⟨u17, hr_10, hq⟩
  · exact bk_callSt (rest := []) (As := [.int r_9]) (e9 := x9_11) C hT9 hH hl.1 (c_X11_needElement hst hr_10) ho_12 mc_X11_needElement st_X11_needElement ml_RX11_214 rfl ⟨rfl, rfl⟩ ⟨by decide, by decide⟩ rfl (Nat.le_of_ble_eq_true rfl) dX11_needHole_17 ⟨by decide, by decide⟩ (by decide) (by decide)
  · refine bk_callSr (rest := []) (As := [.int r_9]) (o1 := u17) (ro := none) (Y1 := Y) (V1 := V) rfl C hH hl.1 (c_X11_needElement hst hr_10) mc_X11_needElement st_X11_needElement ml_RX11_214 rfl ⟨rfl, rfl⟩ ⟨by decide, by decide⟩ rfl (Nat.le_of_ble_eq_true rfl) dX11_needHole_17 ⟨by decide, by decide⟩ (fun H locs hH => ?_)
    refine W.widen (k := 1) (n := 6) (by decide) (by decide) ?_
    refine vx_ret ?_
    cases hq
    exact bk_vret C hH dX11_needHole_20
set_option maxRecDepth 100000 in
theorem c_X11_needHole {l : Launch} {G : bk_G} {N : Nat} {Y : bk_Lay} {V : bk_Val} (hst : l.stackTraces = false) {a0 : Nat} {x1 : Int32} {out : Nat ⊕ (Unit)} (hq : q_X11_needHole N Y V a0 x1 = some out) : vx_Met l yX11_needHole (bk_ws yX11_needHole cX11_needHole 2 (none : Option FieldType)) rm_X11_needHole (bk_Pc G [.ref a0, .int x1] Y V) (bk_QX (fun (o : Unit) => bk_Q G none Y V) out) (bk_XC G Y V out) 1 6 (bk_A G) :=
  bk_metx (by decide) (Nat.le_of_ble_eq_true rfl) (fun p e s m args below meth c ls C hT9 hH hl => w_X11_needHole C hst hT9 _ _ _ _ _ _ _ hl hH hq)

def rm_X11_isHundred : Room := bk_rm 1 0 0 22
set_option maxRecDepth 100000 in
set_option maxHeartbeats 4000000 in
theorem w_X11_isHundred (C : bk_C G p s m args meth c cX11_isHundred RX11 1 (some FieldType.boolean)) : ∀ (V : bk_Val) (x0 : Int32) (H : Heap) (locs : List Loc) (ls : Array Slot) (out : Int32), lv_has ls 1 [(0, .int x0)] → bk_H G Y V s.heap H locs → q_X11_isHundred N Y V x0 = some out → W p l e rm_X11_isHundred s m args below meth c H locs 0 0 (MQ below (bk_Q G (some (.int out)) Y V) args s 0 0 (bk_A G)) (F0 m 0 ls []) := by
  have hx := C.1
  have hb := C.2.1
  intro V x0 H locs ls out hl hH hq
  unfold q_X11_isHundred at hq
  refine lv_iload_n hx hb dX11_isHundred_0 rfl (lv_at hl 0 rfl) ?_
  refine lv_iconst (v := 0) hx hb dX11_isHundred_1 (by decide) ?_
  refine lv_bipush (v := 100) hx hb dX11_isHundred_2 (by decide) ?_
  obtain ⟨r_2, hr_1, hq⟩ := bk_bd_some hq
  refine bk_callS (rest := []) (As := [.int x0, .int 0, .int 100]) (ro := (some (.int r_2))) (Y1 := Y) (V1 := V) C hH hl.1 (c_X11_isWithin hr_1) mc_X11_isWithin st_X11_isWithin lk_RX11_78 rfl ⟨rfl, rfl⟩ ⟨by decide, by decide⟩ rfl (Nat.le_of_ble_eq_true rfl) dX11_isHundred_4 ⟨by decide, by decide⟩ (fun H locs hH => ?_)
  obtain ⟨hz9, hq⟩ := bk_ck_some hq
  cases hq
  exact bk_zret C hH hz9 dX11_isHundred_7
set_option maxRecDepth 100000 in
theorem c_X11_isHundred {l : Launch} {G : bk_G} {N : Nat} {Y : bk_Lay} {V : bk_Val} {x0 : Int32} {out : Int32} (hq : q_X11_isHundred N Y V x0 = some out) : Met l yX11_isHundred (bk_ws yX11_isHundred cX11_isHundred 1 (some FieldType.boolean)) rm_X11_isHundred (bk_Pc G [.int x0] Y V) (bk_Q G (some (.int out)) Y V) 0 0 (bk_A G) :=
  bk_met (by decide) (Nat.le_of_ble_eq_true rfl) (fun p e s m args below meth c ls C hnm hH hl => w_X11_isHundred C _ _ _ _ _ _ hl hH hq)

def rm_X11_holds : Room := bk_rm 10 2 12 241
set_option maxRecDepth 100000 in
set_option maxHeartbeats 4000000 in
theorem w_X11_holds_35 (C : bk_C G p s m args meth c cX11_holds RX11 5 (some FieldType.int)) (hst : l.stackTraces = false) (hT9 : ∀ x ∈ c.exceptionTable.toList, False) : ∀ (V : bk_Val) (a0 : Nat) (x1 : Int32) (x2 : Int32) (x3 : Int32) (x4 : Int32) (sx0 : Int32) (H : Heap) (locs : List Loc) (ls : Array Slot) (out : Nat ⊕ (Int32 × bk_Val)), lv_has ls 5 [(0, .ref a0), (1, .int x1), (2, .int x2), (3, .int x3), (4, .int x4)] → bk_H G Y V s.heap H locs → q_X11_holds_35 N Y V a0 x1 x2 x3 x4 sx0 = some out → W p l e rm_X11_holds s m args below meth c H locs 1 6 (vx_MQ below (bk_QX (fun (o : Int32 × bk_Val) => bk_Q G (some (.int o.1)) Y o.2) out) (bk_XC G Y V out) args s 2 12 (bk_A G)) (F0 m 35 ls [.int sx0]) := by
  have hx := C.1
  have hb := C.2.1
  intro V a0 x1 x2 x3 x4 sx0 H locs ls out hl hH hq
  unfold q_X11_holds_35 at hq
  rcases bk_bdx_cases hq with ⟨x9_2, hr_1, ho_3⟩ | ⟨u35, hr_1, hq⟩
  · exact bk_callSt (rest := []) (As := [.int sx0]) (e9 := x9_2) C hT9 hH hl.1 (c_X11_needArgument hst hr_1) ho_3 mc_X11_needArgument st_X11_needArgument ml_RX11_82 rfl ⟨rfl, rfl⟩ ⟨by decide, by decide⟩ rfl (Nat.le_of_ble_eq_true rfl) dX11_holds_35 ⟨by decide, by decide⟩ (by decide) (by decide)
  · refine bk_callSr (rest := []) (As := [.int sx0]) (o1 := u35) (ro := none) (Y1 := Y) (V1 := V) rfl C hH hl.1 (c_X11_needArgument hst hr_1) mc_X11_needArgument st_X11_needArgument ml_RX11_82 rfl ⟨rfl, rfl⟩ ⟨by decide, by decide⟩ rfl (Nat.le_of_ble_eq_true rfl) dX11_holds_35 ⟨by decide, by decide⟩ (fun H locs hH => ?_)
    refine W.widen (k := 2) (n := 12) (by decide) (by decide) ?_
    refine lv_aload_n hx hb dX11_holds_38 rfl (lv_at hl 0 rfl) ?_
    obtain ⟨hs_4, hq⟩ := bk_ck_some hq
    obtain ⟨b_5, hr_6, hq⟩ := bk_bd_some hq
    refine bk_getr C hH fl_RX11_33 hs_4 rfl hr_6 dX11_holds_39 ?_
    refine lv_iload_n hx hb dX11_holds_42 rfl (lv_at hl 1 rfl) ?_
    refine lv_iload_n hx hb dX11_holds_43 rfl (lv_at hl 2 rfl) ?_
    refine lv_iload_n hx hb dX11_holds_44 rfl (lv_at hl 3 rfl) ?_
    refine lv_iload hx hb dX11_holds_45 (lv_at hl 4 rfl) ?_
    obtain ⟨hs_10, hq⟩ := bk_ck_some hq
    obtain ⟨r_8, V_9, hr_7, hq⟩ := bk_bd2_some hq
    refine bk_callV (rest := []) (As := [.int x1, .int x2, .int x3, .int x4]) (ro := (some (.int r_8))) (Y1 := Y) (V1 := V_9) C hH hl.1 (c_X5_holdsBy hr_7) mc_X5_holdsBy mv_X5_holdsBy lk_RX11_350 hs_10 rfl rfl ⟨rfl, rfl⟩ ⟨by decide, by decide⟩ rfl (Nat.le_of_ble_eq_true rfl) dX11_holds_47 ⟨by decide, by decide⟩ (fun H locs hH => ?_)
    refine vx_ret ?_
    cases hq
    exact bk_iret C hH dX11_holds_50

set_option maxRecDepth 100000 in
set_option maxHeartbeats 4000000 in
theorem w_X11_holds_34 (C : bk_C G p s m args meth c cX11_holds RX11 5 (some FieldType.int)) (hst : l.stackTraces = false) (hT9 : ∀ x ∈ c.exceptionTable.toList, False) : ∀ (V : bk_Val) (a0 : Nat) (x1 : Int32) (x2 : Int32) (x3 : Int32) (x4 : Int32) (H : Heap) (locs : List Loc) (ls : Array Slot) (out : Nat ⊕ (Int32 × bk_Val)), lv_has ls 5 [(0, .ref a0), (1, .int x1), (2, .int x2), (3, .int x3), (4, .int x4)] → bk_H G Y V s.heap H locs → q_X11_holds_34 N Y V a0 x1 x2 x3 x4 = some out → W p l e rm_X11_holds s m args below meth c H locs 1 6 (vx_MQ below (bk_QX (fun (o : Int32 × bk_Val) => bk_Q G (some (.int o.1)) Y o.2) out) (bk_XC G Y V out) args s 2 12 (bk_A G)) (F0 m 34 ls []) := by
  have hx := C.1
  have hb := C.2.1
  intro V a0 x1 x2 x3 x4 H locs ls out hl hH hq
  unfold q_X11_holds_34 at hq
  refine lv_iconst (v := 0) hx hb dX11_holds_34 (by decide) ?_
  exact w_X11_holds_35 C hst hT9 _ _ _ _ _ _ _ _ _ _ _ (lv_sub hl [0, 1, 2, 3, 4] rfl) hH hq

set_option maxRecDepth 100000 in
set_option maxHeartbeats 4000000 in
theorem w_X11_holds (C : bk_C G p s m args meth c cX11_holds RX11 5 (some FieldType.int)) (hst : l.stackTraces = false) (hT9 : ∀ x ∈ c.exceptionTable.toList, False) : ∀ (V : bk_Val) (a0 : Nat) (x1 : Int32) (x2 : Int32) (x3 : Int32) (x4 : Int32) (H : Heap) (locs : List Loc) (ls : Array Slot) (out : Nat ⊕ (Int32 × bk_Val)), lv_has ls 5 [(0, .ref a0), (1, .int x1), (2, .int x2), (3, .int x3), (4, .int x4)] → bk_H G Y V s.heap H locs → q_X11_holds N Y V a0 x1 x2 x3 x4 = some out → W p l e rm_X11_holds s m args below meth c H locs 0 0 (vx_MQ below (bk_QX (fun (o : Int32 × bk_Val) => bk_Q G (some (.int o.1)) Y o.2) out) (bk_XC G Y V out) args s 2 12 (bk_A G)) (F0 m 0 ls []) := by
  have hx := C.1
  have hb := C.2.1
  intro V a0 x1 x2 x3 x4 H locs ls out hl hH hq
  unfold q_X11_holds at hq
  refine lv_aload_n hx hb dX11_holds_0 rfl (lv_at hl 0 rfl) ?_
  refine lv_iload_n hx hb dX11_holds_1 rfl (lv_at hl 1 rfl) ?_
  obtain ⟨hs_12, hq⟩ := bk_ck_some hq
  rcases bk_bdx_cases hq with ⟨x9_13, hr_11, ho_14⟩ | ⟨u2, hr_11, hq⟩
  · exact bk_callVt (rest := []) (As := [.int x1]) (e9 := x9_13) C hT9 hH hl.1 (c_X11_needHole hst hr_11) ho_14 mc_X11_needHole mv_X11_needHole ml_RX11_160 hs_12 rfl rfl ⟨rfl, rfl⟩ ⟨by decide, by decide⟩ rfl (Nat.le_of_ble_eq_true rfl) dX11_holds_2 ⟨by decide, by decide⟩ (by decide) (by decide)
  · refine bk_callVr (rest := []) (As := [.int x1]) (o1 := u2) (ro := none) (Y1 := Y) (V1 := V) rfl C hH hl.1 (c_X11_needHole hst hr_11) mc_X11_needHole mv_X11_needHole ml_RX11_160 hs_12 rfl rfl ⟨rfl, rfl⟩ ⟨by decide, by decide⟩ rfl (Nat.le_of_ble_eq_true rfl) dX11_holds_2 ⟨by decide, by decide⟩ (fun H locs hH => ?_)
    refine W.widen (k := 1) (n := 6) (by decide) (by decide) ?_
    refine lv_iload_n hx hb dX11_holds_5 rfl (lv_at hl 2 rfl) ?_
    refine lv_iconst (v := 0) hx hb dX11_holds_6 (by decide) ?_
    refine lv_bipush (v := 60) hx hb dX11_holds_7 (by decide) ?_
    obtain ⟨r_16, hr_15, hq⟩ := bk_bd_some hq
    refine bk_callS (rest := []) (As := [.int x2, .int 0, .int 60]) (ro := (some (.int r_16))) (Y1 := Y) (V1 := V) C hH hl.1 (c_X11_isWithin hr_15) mc_X11_isWithin st_X11_isWithin lk_RX11_78 rfl ⟨rfl, rfl⟩ ⟨by decide, by decide⟩ rfl (Nat.le_of_ble_eq_true rfl) dX11_holds_9 ⟨by decide, by decide⟩ (fun H locs hH => ?_)
    refine lv_if_eq (tgt := 34) hx hb dX11_holds_12 (by decide) (fun hc_23 => ?_) (fun hc_23 => ?_)
    · rw [if_pos hc_23] at hq
      exact w_X11_holds_34 C hst hT9 _ _ _ _ _ _ _ _ _ _ (lv_sub hl [0, 1, 2, 3, 4] rfl) hH hq
    · rw [if_neg hc_23] at hq
      refine lv_iload_n hx hb dX11_holds_15 rfl (lv_at hl 3 rfl) ?_
      obtain ⟨r_18, hr_17, hq⟩ := bk_bd_some hq
      refine bk_callS (rest := []) (As := [.int x3]) (ro := (some (.int r_18))) (Y1 := Y) (V1 := V) C hH hl.1 (c_X11_isHundred hr_17) mc_X11_isHundred st_X11_isHundred lk_RX11_347 rfl ⟨rfl, rfl⟩ ⟨by decide, by decide⟩ rfl (Nat.le_of_ble_eq_true rfl) dX11_holds_16 ⟨by decide, by decide⟩ (fun H locs hH => ?_)
      refine lv_if_eq (tgt := 34) hx hb dX11_holds_19 (by decide) (fun hc_22 => ?_) (fun hc_22 => ?_)
      · rw [if_pos hc_22] at hq
        exact w_X11_holds_34 C hst hT9 _ _ _ _ _ _ _ _ _ _ (lv_sub hl [0, 1, 2, 3, 4] rfl) hH hq
      · rw [if_neg hc_22] at hq
        refine lv_iload hx hb dX11_holds_22 (lv_at hl 4 rfl) ?_
        obtain ⟨r_20, hr_19, hq⟩ := bk_bd_some hq
        refine bk_callS (rest := []) (As := [.int x4]) (ro := (some (.int r_20))) (Y1 := Y) (V1 := V) C hH hl.1 (c_X11_isHundred hr_19) mc_X11_isHundred st_X11_isHundred lk_RX11_347 rfl ⟨rfl, rfl⟩ ⟨by decide, by decide⟩ rfl (Nat.le_of_ble_eq_true rfl) dX11_holds_24 ⟨by decide, by decide⟩ (fun H locs hH => ?_)
        refine lv_if_eq (tgt := 34) hx hb dX11_holds_27 (by decide) (fun hc_21 => ?_) (fun hc_21 => ?_)
        · rw [if_pos hc_21] at hq
          exact w_X11_holds_34 C hst hT9 _ _ _ _ _ _ _ _ _ _ (lv_sub hl [0, 1, 2, 3, 4] rfl) hH hq
        · rw [if_neg hc_21] at hq
          refine lv_iconst (v := 1) hx hb dX11_holds_30 (by decide) ?_
          refine lv_goto (tgt := 35) hx hb dX11_holds_31 (by decide) ?_
          exact w_X11_holds_35 C hst hT9 _ _ _ _ _ _ _ _ _ _ _ (lv_sub hl [0, 1, 2, 3, 4] rfl) hH hq
set_option maxRecDepth 100000 in
theorem c_X11_holds {l : Launch} {G : bk_G} {N : Nat} {Y : bk_Lay} {V : bk_Val} (hst : l.stackTraces = false) {a0 : Nat} {x1 : Int32} {x2 : Int32} {x3 : Int32} {x4 : Int32} {out : Nat ⊕ (Int32 × bk_Val)} (hq : q_X11_holds N Y V a0 x1 x2 x3 x4 = some out) : vx_Met l yX11_holds (bk_ws yX11_holds cX11_holds 5 (some FieldType.int)) rm_X11_holds (bk_Pc G [.ref a0, .int x1, .int x2, .int x3, .int x4] Y V) (bk_QX (fun (o : Int32 × bk_Val) => bk_Q G (some (.int o.1)) Y o.2) out) (bk_XC G Y V out) 2 12 (bk_A G) :=
  bk_metx (by decide) (Nat.le_of_ble_eq_true rfl) (fun p e s m args below meth c ls C hT9 hH hl => w_X11_holds C hst hT9 _ _ _ _ _ _ _ _ _ _ hl hH hq)

def rm_X11_glue : Room := bk_rm 10 2 12 241
set_option maxRecDepth 100000 in
set_option maxHeartbeats 4000000 in
theorem w_X11_glue_32 (C : bk_C G p s m args meth c cX11_glue RX11 5 (some FieldType.int)) (hst : l.stackTraces = false) (hT9 : ∀ x ∈ c.exceptionTable.toList, False) : ∀ (V : bk_Val) (a0 : Nat) (x1 : Int32) (x2 : Int32) (x3 : Int32) (x4 : Int32) (sx0 : Int32) (H : Heap) (locs : List Loc) (ls : Array Slot) (out : Nat ⊕ (Int32 × bk_Val)), lv_has ls 5 [(0, .ref a0), (1, .int x1), (2, .int x2), (3, .int x3), (4, .int x4)] → bk_H G Y V s.heap H locs → q_X11_glue_32 N Y V a0 x1 x2 x3 x4 sx0 = some out → W p l e rm_X11_glue s m args below meth c H locs 1 6 (vx_MQ below (bk_QX (fun (o : Int32 × bk_Val) => bk_Q G (some (.int o.1)) Y o.2) out) (bk_XC G Y V out) args s 2 12 (bk_A G)) (F0 m 32 ls [.int sx0]) := by
  have hx := C.1
  have hb := C.2.1
  intro V a0 x1 x2 x3 x4 sx0 H locs ls out hl hH hq
  unfold q_X11_glue_32 at hq
  rcases bk_bdx_cases hq with ⟨x9_2, hr_1, ho_3⟩ | ⟨u32, hr_1, hq⟩
  · exact bk_callSt (rest := []) (As := [.int sx0]) (e9 := x9_2) C hT9 hH hl.1 (c_X11_needArgument hst hr_1) ho_3 mc_X11_needArgument st_X11_needArgument ml_RX11_82 rfl ⟨rfl, rfl⟩ ⟨by decide, by decide⟩ rfl (Nat.le_of_ble_eq_true rfl) dX11_glue_32 ⟨by decide, by decide⟩ (by decide) (by decide)
  · refine bk_callSr (rest := []) (As := [.int sx0]) (o1 := u32) (ro := none) (Y1 := Y) (V1 := V) rfl C hH hl.1 (c_X11_needArgument hst hr_1) mc_X11_needArgument st_X11_needArgument ml_RX11_82 rfl ⟨rfl, rfl⟩ ⟨by decide, by decide⟩ rfl (Nat.le_of_ble_eq_true rfl) dX11_glue_32 ⟨by decide, by decide⟩ (fun H locs hH => ?_)
    refine W.widen (k := 2) (n := 12) (by decide) (by decide) ?_
    refine lv_aload_n hx hb dX11_glue_35 rfl (lv_at hl 0 rfl) ?_
    obtain ⟨hs_4, hq⟩ := bk_ck_some hq
    obtain ⟨b_5, hr_6, hq⟩ := bk_bd_some hq
    refine bk_getr C hH fl_RX11_33 hs_4 rfl hr_6 dX11_glue_36 ?_
    refine lv_iload_n hx hb dX11_glue_39 rfl (lv_at hl 1 rfl) ?_
    refine lv_iload_n hx hb dX11_glue_40 rfl (lv_at hl 2 rfl) ?_
    refine lv_iload_n hx hb dX11_glue_41 rfl (lv_at hl 3 rfl) ?_
    refine lv_iload hx hb dX11_glue_42 (lv_at hl 4 rfl) ?_
    obtain ⟨hs_10, hq⟩ := bk_ck_some hq
    obtain ⟨r_8, V_9, hr_7, hq⟩ := bk_bd2_some hq
    refine bk_callV (rest := []) (As := [.int x1, .int x2, .int x3, .int x4]) (ro := (some (.int r_8))) (Y1 := Y) (V1 := V_9) C hH hl.1 (c_X5_glueFor hr_7) mc_X5_glueFor mv_X5_glueFor lk_RX11_354 hs_10 rfl rfl ⟨rfl, rfl⟩ ⟨by decide, by decide⟩ rfl (Nat.le_of_ble_eq_true rfl) dX11_glue_44 ⟨by decide, by decide⟩ (fun H locs hH => ?_)
    refine vx_ret ?_
    cases hq
    exact bk_iret C hH dX11_glue_47

set_option maxRecDepth 100000 in
set_option maxHeartbeats 4000000 in
theorem w_X11_glue_31 (C : bk_C G p s m args meth c cX11_glue RX11 5 (some FieldType.int)) (hst : l.stackTraces = false) (hT9 : ∀ x ∈ c.exceptionTable.toList, False) : ∀ (V : bk_Val) (a0 : Nat) (x1 : Int32) (x2 : Int32) (x3 : Int32) (x4 : Int32) (H : Heap) (locs : List Loc) (ls : Array Slot) (out : Nat ⊕ (Int32 × bk_Val)), lv_has ls 5 [(0, .ref a0), (1, .int x1), (2, .int x2), (3, .int x3), (4, .int x4)] → bk_H G Y V s.heap H locs → q_X11_glue_31 N Y V a0 x1 x2 x3 x4 = some out → W p l e rm_X11_glue s m args below meth c H locs 1 6 (vx_MQ below (bk_QX (fun (o : Int32 × bk_Val) => bk_Q G (some (.int o.1)) Y o.2) out) (bk_XC G Y V out) args s 2 12 (bk_A G)) (F0 m 31 ls []) := by
  have hx := C.1
  have hb := C.2.1
  intro V a0 x1 x2 x3 x4 H locs ls out hl hH hq
  unfold q_X11_glue_31 at hq
  refine lv_iconst (v := 0) hx hb dX11_glue_31 (by decide) ?_
  exact w_X11_glue_32 C hst hT9 _ _ _ _ _ _ _ _ _ _ _ (lv_sub hl [0, 1, 2, 3, 4] rfl) hH hq

set_option maxRecDepth 100000 in
set_option maxHeartbeats 4000000 in
theorem w_X11_glue (C : bk_C G p s m args meth c cX11_glue RX11 5 (some FieldType.int)) (hst : l.stackTraces = false) (hT9 : ∀ x ∈ c.exceptionTable.toList, False) : ∀ (V : bk_Val) (a0 : Nat) (x1 : Int32) (x2 : Int32) (x3 : Int32) (x4 : Int32) (H : Heap) (locs : List Loc) (ls : Array Slot) (out : Nat ⊕ (Int32 × bk_Val)), lv_has ls 5 [(0, .ref a0), (1, .int x1), (2, .int x2), (3, .int x3), (4, .int x4)] → bk_H G Y V s.heap H locs → q_X11_glue N Y V a0 x1 x2 x3 x4 = some out → W p l e rm_X11_glue s m args below meth c H locs 0 0 (vx_MQ below (bk_QX (fun (o : Int32 × bk_Val) => bk_Q G (some (.int o.1)) Y o.2) out) (bk_XC G Y V out) args s 2 12 (bk_A G)) (F0 m 0 ls []) := by
  have hx := C.1
  have hb := C.2.1
  intro V a0 x1 x2 x3 x4 H locs ls out hl hH hq
  unfold q_X11_glue at hq
  refine lv_aload_n hx hb dX11_glue_0 rfl (lv_at hl 0 rfl) ?_
  refine lv_iload_n hx hb dX11_glue_1 rfl (lv_at hl 1 rfl) ?_
  obtain ⟨hs_12, hq⟩ := bk_ck_some hq
  rcases bk_bdx_cases hq with ⟨x9_13, hr_11, ho_14⟩ | ⟨u2, hr_11, hq⟩
  · exact bk_callVt (rest := []) (As := [.int x1]) (e9 := x9_13) C hT9 hH hl.1 (c_X11_needHole hst hr_11) ho_14 mc_X11_needHole mv_X11_needHole ml_RX11_160 hs_12 rfl rfl ⟨rfl, rfl⟩ ⟨by decide, by decide⟩ rfl (Nat.le_of_ble_eq_true rfl) dX11_glue_2 ⟨by decide, by decide⟩ (by decide) (by decide)
  · refine bk_callVr (rest := []) (As := [.int x1]) (o1 := u2) (ro := none) (Y1 := Y) (V1 := V) rfl C hH hl.1 (c_X11_needHole hst hr_11) mc_X11_needHole mv_X11_needHole ml_RX11_160 hs_12 rfl rfl ⟨rfl, rfl⟩ ⟨by decide, by decide⟩ rfl (Nat.le_of_ble_eq_true rfl) dX11_glue_2 ⟨by decide, by decide⟩ (fun H locs hH => ?_)
    refine W.widen (k := 1) (n := 6) (by decide) (by decide) ?_
    refine lv_iload_n hx hb dX11_glue_5 rfl (lv_at hl 2 rfl) ?_
    obtain ⟨r_16, hr_15, hq⟩ := bk_bd_some hq
    refine bk_callS (rest := []) (As := [.int x2]) (ro := (some (.int r_16))) (Y1 := Y) (V1 := V) C hH hl.1 (c_X11_isHundred hr_15) mc_X11_isHundred st_X11_isHundred lk_RX11_347 rfl ⟨rfl, rfl⟩ ⟨by decide, by decide⟩ rfl (Nat.le_of_ble_eq_true rfl) dX11_glue_6 ⟨by decide, by decide⟩ (fun H locs hH => ?_)
    refine lv_if_eq (tgt := 31) hx hb dX11_glue_9 (by decide) (fun hc_23 => ?_) (fun hc_23 => ?_)
    · rw [if_pos hc_23] at hq
      exact w_X11_glue_31 C hst hT9 _ _ _ _ _ _ _ _ _ _ (lv_sub hl [0, 1, 2, 3, 4] rfl) hH hq
    · rw [if_neg hc_23] at hq
      refine lv_iload_n hx hb dX11_glue_12 rfl (lv_at hl 3 rfl) ?_
      obtain ⟨r_18, hr_17, hq⟩ := bk_bd_some hq
      refine bk_callS (rest := []) (As := [.int x3]) (ro := (some (.int r_18))) (Y1 := Y) (V1 := V) C hH hl.1 (c_X11_isHundred hr_17) mc_X11_isHundred st_X11_isHundred lk_RX11_347 rfl ⟨rfl, rfl⟩ ⟨by decide, by decide⟩ rfl (Nat.le_of_ble_eq_true rfl) dX11_glue_13 ⟨by decide, by decide⟩ (fun H locs hH => ?_)
      refine lv_if_eq (tgt := 31) hx hb dX11_glue_16 (by decide) (fun hc_22 => ?_) (fun hc_22 => ?_)
      · rw [if_pos hc_22] at hq
        exact w_X11_glue_31 C hst hT9 _ _ _ _ _ _ _ _ _ _ (lv_sub hl [0, 1, 2, 3, 4] rfl) hH hq
      · rw [if_neg hc_22] at hq
        refine lv_iload hx hb dX11_glue_19 (lv_at hl 4 rfl) ?_
        obtain ⟨r_20, hr_19, hq⟩ := bk_bd_some hq
        refine bk_callS (rest := []) (As := [.int x4]) (ro := (some (.int r_20))) (Y1 := Y) (V1 := V) C hH hl.1 (c_X11_isHundred hr_19) mc_X11_isHundred st_X11_isHundred lk_RX11_347 rfl ⟨rfl, rfl⟩ ⟨by decide, by decide⟩ rfl (Nat.le_of_ble_eq_true rfl) dX11_glue_21 ⟨by decide, by decide⟩ (fun H locs hH => ?_)
        refine lv_if_eq (tgt := 31) hx hb dX11_glue_24 (by decide) (fun hc_21 => ?_) (fun hc_21 => ?_)
        · rw [if_pos hc_21] at hq
          exact w_X11_glue_31 C hst hT9 _ _ _ _ _ _ _ _ _ _ (lv_sub hl [0, 1, 2, 3, 4] rfl) hH hq
        · rw [if_neg hc_21] at hq
          refine lv_iconst (v := 1) hx hb dX11_glue_27 (by decide) ?_
          refine lv_goto (tgt := 32) hx hb dX11_glue_28 (by decide) ?_
          exact w_X11_glue_32 C hst hT9 _ _ _ _ _ _ _ _ _ _ _ (lv_sub hl [0, 1, 2, 3, 4] rfl) hH hq
set_option maxRecDepth 100000 in
theorem c_X11_glue {l : Launch} {G : bk_G} {N : Nat} {Y : bk_Lay} {V : bk_Val} (hst : l.stackTraces = false) {a0 : Nat} {x1 : Int32} {x2 : Int32} {x3 : Int32} {x4 : Int32} {out : Nat ⊕ (Int32 × bk_Val)} (hq : q_X11_glue N Y V a0 x1 x2 x3 x4 = some out) : vx_Met l yX11_glue (bk_ws yX11_glue cX11_glue 5 (some FieldType.int)) rm_X11_glue (bk_Pc G [.ref a0, .int x1, .int x2, .int x3, .int x4] Y V) (bk_QX (fun (o : Int32 × bk_Val) => bk_Q G (some (.int o.1)) Y o.2) out) (bk_XC G Y V out) 2 12 (bk_A G) :=
  bk_metx (by decide) (Nat.le_of_ble_eq_true rfl) (fun p e s m args below meth c ls C hT9 hH hl => w_X11_glue C hst hT9 _ _ _ _ _ _ _ _ _ _ hl hH hq)

def rm_X11_beginAnew : Room := bk_rm 4 2 341 88
set_option maxRecDepth 100000 in
set_option maxHeartbeats 4000000 in
theorem w_X11_beginAnew (C : bk_C G p s m args meth c cX11_beginAnew RX11 2 (none : Option FieldType)) : ∀ (Y : bk_Lay) (V : bk_Val) (a0 : Nat) (H : Heap) (locs : List Loc) (ls : Array Slot) (out : bk_Lay × bk_Val), lv_has ls 2 [(0, .ref a0)] → bk_H G Y V s.heap H locs → q_X11_beginAnew N Y V a0 = some out → W p l e rm_X11_beginAnew s m args below meth c H locs 0 0 (MQ below (bk_Q G none out.1 out.2) args s 2 341 (bk_A G)) (F0 m 0 ls []) := by
  have hx := C.1
  have hb := C.2.1
  intro Y V a0 H locs ls out hl hH hq
  unfold q_X11_beginAnew at hq
  refine lv_aload_n hx hb dX11_beginAnew_0 rfl (lv_at hl 0 rfl) ?_
  obtain ⟨hs_1, hq⟩ := bk_ck_some hq
  obtain ⟨b_2, hr_3, hq⟩ := bk_bd_some hq
  refine bk_getr C hH fl_RX11_37 hs_1 rfl hr_3 dX11_beginAnew_1 ?_
  refine lv_astore_n (lv' := [(1, .ref b_2), (0, .ref a0)]) hx hb dX11_beginAnew_4 rfl hl (by decide) rfl (fun ls hl => ?_)
  refine lv_aload_n hx hb dX11_beginAnew_5 rfl (lv_at hl 1 rfl) ?_
  refine lv_aload_n hx hb dX11_beginAnew_6 rfl (lv_at hl 1 rfl) ?_
  obtain ⟨b_4, hr_5, hq⟩ := bk_bd_some hq
  refine bk_getr C hH fl_RX11_33 hs_1 rfl hr_5 dX11_beginAnew_7 ?_
  refine bk_putr C hH fp_RX11_37 (fun h => by cases h) hs_1 rfl rfl rfl dX11_beginAnew_10 (fun Y_6 H locs e_7 hH => ?_)
  have hq := bk_let_eq e_7 hq
  refine lv_aload_n hx hb dX11_beginAnew_13 rfl (lv_at hl 1 rfl) ?_
  refine lv_aload_n hx hb dX11_beginAnew_14 rfl (lv_at hl 0 rfl) ?_
  refine bk_putr C hH fp_RX11_33 (fun h => by cases h) (by rw [e_7]; exact hs_1) rfl rfl rfl dX11_beginAnew_15 (fun Y_8 H locs e_9 hH => ?_)
  have hq := bk_let_eq e_9 hq
  refine lv_aload_n hx hb dX11_beginAnew_18 rfl (lv_at hl 1 rfl) ?_
  refine lv_aload_n hx hb dX11_beginAnew_19 rfl (lv_at hl 1 rfl) ?_
  obtain ⟨b_10, hr_11, hq⟩ := bk_bd_some hq
  refine bk_getr C hH fl_RX11_33 (by rw [e_9]; exact (by rw [e_7]; exact hs_1)) rfl hr_11 dX11_beginAnew_20 ?_
  obtain ⟨b_13, Y_14, V_15, hr_12, hq⟩ := bk_bd3_some hq
  refine bk_callS (rest := [.ref a0]) (As := [.ref b_10]) (ro := (some (.ref b_13))) (Y1 := Y_14) (V1 := V_15) C hH hl.1 (c_X6_ofNew hr_12) mc_X6_ofNew st_X6_ofNew lk_RX11_57 rfl ⟨rfl, rfl⟩ ⟨by decide, by decide⟩ rfl (Nat.le_of_ble_eq_true rfl) dX11_beginAnew_23 ⟨by decide, by decide⟩ (fun H locs hH => ?_)
  refine W.widen (k := 2) (n := 341) (by decide) (by decide) ?_
  obtain ⟨hs_16, hq⟩ := bk_ck_some hq
  refine bk_putr C hH fp_RX11_63 (fun h => by cases h) hs_16 rfl rfl rfl dX11_beginAnew_26 (fun Y_17 H locs e_18 hH => ?_)
  have hq := bk_let_eq e_18 hq
  refine lv_aload_n hx hb dX11_beginAnew_29 rfl (lv_at hl 1 rfl) ?_
  refine lv_iconst (v := 0) hx hb dX11_beginAnew_30 (by decide) ?_
  refine bk_puti C hH fp_RX11_99 (fun h => by cases h) (by rw [e_18]; exact hs_16) rfl dX11_beginAnew_31 (fun V_19 H locs e_20 hH => ?_)
  have hq := bk_let_eq e_20 hq
  refine lv_aload_n hx hb dX11_beginAnew_34 rfl (lv_at hl 1 rfl) ?_
  refine lv_null hx hb dX11_beginAnew_35 ?_
  refine bk_putn C hH fp_RX11_102 (fun h => by cases h) (by rw [e_18]; exact hs_16) rfl rfl rfl dX11_beginAnew_36 (fun Y_21 H locs e_22 hH => ?_)
  have hq := bk_let_eq e_22 hq
  refine lv_aload_n hx hb dX11_beginAnew_39 rfl (lv_at hl 1 rfl) ?_
  refine lv_iconst (v := 0) hx hb dX11_beginAnew_40 (by decide) ?_
  refine bk_puti C hH fp_RX11_105 (fun h => by cases h) (by rw [e_22]; exact (by rw [e_18]; exact hs_16)) rfl dX11_beginAnew_41 (fun V_23 H locs e_24 hH => ?_)
  have hq := bk_let_eq e_24 hq
  refine lv_aload_n hx hb dX11_beginAnew_44 rfl (lv_at hl 1 rfl) ?_
  refine lv_iconst (v := 0) hx hb dX11_beginAnew_45 (by decide) ?_
  refine bk_putz C hH fp_RX11_108 (fun h => by cases h) (by rw [e_22]; exact (by rw [e_18]; exact hs_16)) rfl (Or.inl rfl) dX11_beginAnew_46 (fun V_25 H locs e_26 hH => ?_)
  have hq := bk_let_eq e_26 hq
  refine lv_aload_n hx hb dX11_beginAnew_49 rfl (lv_at hl 1 rfl) ?_
  obtain ⟨b_27, hr_28, hq⟩ := bk_bd_some hq
  refine bk_getr C hH fl_RX11_19 (by rw [e_22]; exact (by rw [e_18]; exact hs_16)) rfl hr_28 dX11_beginAnew_50 ?_
  obtain ⟨hs_31, hq⟩ := bk_ck_some hq
  obtain ⟨V_30, hr_29, hq⟩ := bk_bd_some hq
  refine bk_callV (rest := []) (As := []) (ro := none) (Y1 := Y_21) (V1 := V_30) C hH hl.1 (c_X3_forget hr_29) mc_X3_forget mv_X3_forget lk_RX11_112 hs_31 rfl rfl ⟨rfl, rfl⟩ ⟨by decide, by decide⟩ rfl (Nat.le_of_ble_eq_true rfl) dX11_beginAnew_53 ⟨by decide, by decide⟩ (fun H locs hH => ?_)
  cases hq
  exact bk_vret C hH dX11_beginAnew_56
set_option maxRecDepth 100000 in
theorem c_X11_beginAnew {l : Launch} {G : bk_G} {N : Nat} {Y : bk_Lay} {V : bk_Val} {a0 : Nat} {out : bk_Lay × bk_Val} (hq : q_X11_beginAnew N Y V a0 = some out) : Met l yX11_beginAnew (bk_ws yX11_beginAnew cX11_beginAnew 2 (none : Option FieldType)) rm_X11_beginAnew (bk_Pc G [.ref a0] Y V) (bk_Q G none out.1 out.2) 2 341 (bk_A G) :=
  bk_met (by decide) (Nat.le_of_ble_eq_true rfl) (fun p e s m args below meth c ls C hnm hH hl => w_X11_beginAnew C _ _ _ _ _ _ _ hl hH hq)

def rm_X11_flatIf : Room := bk_rm 9 1 6 220
set_option maxRecDepth 100000 in
set_option maxHeartbeats 4000000 in
theorem w_X11_flatIf_22 (C : bk_C G p s m args meth c cX11_flatIf RX11 3 (some FieldType.int)) (hst : l.stackTraces = false) (hT9 : ∀ x ∈ c.exceptionTable.toList, False) : ∀ (V : bk_Val) (a0 : Nat) (x1 : Int32) (x2 : Int32) (sx0 : Int32) (H : Heap) (locs : List Loc) (ls : Array Slot) (out : Nat ⊕ (Int32 × bk_Val)), lv_has ls 3 [(0, .ref a0), (1, .int x1), (2, .int x2)] → bk_H G Y V s.heap H locs → q_X11_flatIf_22 N Y V a0 x1 x2 sx0 = some out → W p l e rm_X11_flatIf s m args below meth c H locs 0 0 (vx_MQ below (bk_QX (fun (o : Int32 × bk_Val) => bk_Q G (some (.int o.1)) Y o.2) out) (bk_XC G Y V out) args s 1 6 (bk_A G)) (F0 m 22 ls [.int sx0]) := by
  have hx := C.1
  have hb := C.2.1
  intro V a0 x1 x2 sx0 H locs ls out hl hH hq
  unfold q_X11_flatIf_22 at hq
  rcases bk_bdx_cases hq with ⟨x9_2, hr_1, ho_3⟩ | ⟨u22, hr_1, hq⟩
  · exact bk_callSt (rest := []) (As := [.int sx0]) (e9 := x9_2) C hT9 hH hl.1 (c_X11_needArgument hst hr_1) ho_3 mc_X11_needArgument st_X11_needArgument ml_RX11_82 rfl ⟨rfl, rfl⟩ ⟨by decide, by decide⟩ rfl (Nat.le_of_ble_eq_true rfl) dX11_flatIf_22 ⟨by decide, by decide⟩ (by decide) (by decide)
  · refine bk_callSr (rest := []) (As := [.int sx0]) (o1 := u22) (ro := none) (Y1 := Y) (V1 := V) rfl C hH hl.1 (c_X11_needArgument hst hr_1) mc_X11_needArgument st_X11_needArgument ml_RX11_82 rfl ⟨rfl, rfl⟩ ⟨by decide, by decide⟩ rfl (Nat.le_of_ble_eq_true rfl) dX11_flatIf_22 ⟨by decide, by decide⟩ (fun H locs hH => ?_)
    refine W.widen (k := 1) (n := 6) (by decide) (by decide) ?_
    refine lv_aload_n hx hb dX11_flatIf_25 rfl (lv_at hl 0 rfl) ?_
    refine lv_iload_n hx hb dX11_flatIf_26 rfl (lv_at hl 1 rfl) ?_
    refine lv_iload_n hx hb dX11_flatIf_27 rfl (lv_at hl 2 rfl) ?_
    obtain ⟨hs_7, hq⟩ := bk_ck_some hq
    obtain ⟨r_5, V_6, hr_4, hq⟩ := bk_bd2_some hq
    refine bk_callV (rest := []) (As := [.int x1, .int x2]) (ro := (some (.int r_5))) (Y1 := Y) (V1 := V_6) C hH hl.1 (c_X11_minutesTillFlat hr_4) mc_X11_minutesTillFlat mv_X11_minutesTillFlat lk_RX11_207 hs_7 rfl rfl ⟨rfl, rfl⟩ ⟨by decide, by decide⟩ rfl (Nat.le_of_ble_eq_true rfl) dX11_flatIf_28 ⟨by decide, by decide⟩ (fun H locs hH => ?_)
    refine vx_ret ?_
    cases hq
    exact bk_iret C hH dX11_flatIf_31

set_option maxRecDepth 100000 in
set_option maxHeartbeats 4000000 in
theorem w_X11_flatIf (C : bk_C G p s m args meth c cX11_flatIf RX11 3 (some FieldType.int)) (hst : l.stackTraces = false) (hT9 : ∀ x ∈ c.exceptionTable.toList, False) : ∀ (V : bk_Val) (a0 : Nat) (x1 : Int32) (x2 : Int32) (H : Heap) (locs : List Loc) (ls : Array Slot) (out : Nat ⊕ (Int32 × bk_Val)), lv_has ls 3 [(0, .ref a0), (1, .int x1), (2, .int x2)] → bk_H G Y V s.heap H locs → q_X11_flatIf N Y V a0 x1 x2 = some out → W p l e rm_X11_flatIf s m args below meth c H locs 0 0 (vx_MQ below (bk_QX (fun (o : Int32 × bk_Val) => bk_Q G (some (.int o.1)) Y o.2) out) (bk_XC G Y V out) args s 1 6 (bk_A G)) (F0 m 0 ls []) := by
  have hx := C.1
  have hb := C.2.1
  intro V a0 x1 x2 H locs ls out hl hH hq
  unfold q_X11_flatIf at hq
  refine lv_iload_n hx hb dX11_flatIf_0 rfl (lv_at hl 1 rfl) ?_
  refine lv_aload_n hx hb dX11_flatIf_1 rfl (lv_at hl 0 rfl) ?_
  obtain ⟨hs_8, hq⟩ := bk_ck_some hq
  obtain ⟨b_9, hr_10, hq⟩ := bk_bd_some hq
  refine bk_getr C hH fl_RX11_33 hs_8 rfl hr_10 dX11_flatIf_2 ?_
  obtain ⟨hs_11, hq⟩ := bk_ck_some hq
  obtain ⟨b_12, hr_13, hq⟩ := bk_bd_some hq
  refine bk_getr C hH fl_RX11_121 hs_11 rfl hr_13 dX11_flatIf_5 ?_
  obtain ⟨hs_16, hq⟩ := bk_ck_some hq
  obtain ⟨r_15, hr_14, hq⟩ := bk_bd_some hq
  refine bk_callV (rest := [.int x1]) (As := []) (ro := (some (.int r_15))) (Y1 := Y) (V1 := V) C hH hl.1 (c_X1_all hr_14) mc_X1_all mv_X1_all lk_RX11_211 hs_16 rfl rfl ⟨rfl, rfl⟩ ⟨by decide, by decide⟩ rfl (Nat.le_of_ble_eq_true rfl) dX11_flatIf_8 ⟨by decide, by decide⟩ (fun H locs hH => ?_)
  refine lv_iconst (v := (-1)) hx hb dX11_flatIf_11 (by decide) ?_
  refine lv_ixor hx hb dX11_flatIf_12 ?_
  refine lv_iand hx hb dX11_flatIf_13 ?_
  refine lv_if_ne (tgt := 21) hx hb dX11_flatIf_14 (by decide) (fun hc_17 => ?_) (fun hc_17 => ?_)
  · rw [if_neg hc_17] at hq
    refine lv_iconst (v := 0) hx hb dX11_flatIf_21 (by decide) ?_
    exact w_X11_flatIf_22 C hst hT9 _ _ _ _ _ _ _ _ _ (lv_sub hl [0, 1, 2] rfl) hH hq
  · rw [if_pos hc_17] at hq
    refine lv_iconst (v := 1) hx hb dX11_flatIf_17 (by decide) ?_
    refine lv_goto (tgt := 22) hx hb dX11_flatIf_18 (by decide) ?_
    exact w_X11_flatIf_22 C hst hT9 _ _ _ _ _ _ _ _ _ (lv_sub hl [0, 1, 2] rfl) hH hq
set_option maxRecDepth 100000 in
theorem c_X11_flatIf {l : Launch} {G : bk_G} {N : Nat} {Y : bk_Lay} {V : bk_Val} (hst : l.stackTraces = false) {a0 : Nat} {x1 : Int32} {x2 : Int32} {out : Nat ⊕ (Int32 × bk_Val)} (hq : q_X11_flatIf N Y V a0 x1 x2 = some out) : vx_Met l yX11_flatIf (bk_ws yX11_flatIf cX11_flatIf 3 (some FieldType.int)) rm_X11_flatIf (bk_Pc G [.ref a0, .int x1, .int x2] Y V) (bk_QX (fun (o : Int32 × bk_Val) => bk_Q G (some (.int o.1)) Y o.2) out) (bk_XC G Y V out) 1 6 (bk_A G) :=
  bk_metx (by decide) (Nat.le_of_ble_eq_true rfl) (fun p e s m args below meth c ls C hT9 hH hl => w_X11_flatIf C hst hT9 _ _ _ _ _ _ _ _ hl hH hq)

def rm_X11_ofThousand : Room := bk_rm 0 0 0 0
set_option maxRecDepth 100000 in
set_option maxHeartbeats 4000000 in
theorem w_X11_ofThousand_21 (C : bk_C G p s m args meth c cX11_ofThousand RX11 9 (some FieldType.int)) : ∀ (n : Nat), ∀ (V : bk_Val) (w2 : Int64) (w4 : Int64) (w6 : Int64) (x8 : Int32) (H : Heap) (locs : List Loc) (ls : Array Slot) (out : Int32), lv_has ls 9 [(2, .long w2), (4, .long w4), (6, .long w6), (8, .int x8)] → bk_H G Y V s.heap H locs → q_X11_ofThousand_21 N Y n V w2 w4 w6 x8 = some out → W p l e rm_X11_ofThousand s m args below meth c H locs 0 0 (MQ below (bk_Q G (some (.int out)) Y V) args s 0 0 (bk_A G)) (F0 m 21 ls []) := by
  have hx := C.1
  have hb := C.2.1
  intro n
  induction n with
  | zero =>
    intro V w2 w4 w6 x8 H locs ls out hl hH hq
    exact nomatch (show (none : Option (Int32)) = some out from hq)
  | succ n ih =>
    intro V w2 w4 w6 x8 H locs ls out hl hH hq
    unfold q_X11_ofThousand_21 at hq
    refine lv_iload hx hb dX11_ofThousand_21 (lv_at hl 3 rfl) ?_
    refine lv_iconst (v := 3) hx hb dX11_ofThousand_23 (by decide) ?_
    refine lv_icmp_ge (tgt := 60) hx hb dX11_ofThousand_24 (by decide) (fun hc_5 => ?_) (fun hc_5 => ?_)
    · rw [if_pos hc_5] at hq
      refine lv_lload hx hb dX11_ofThousand_60 (lv_at hl 1 rfl) ?_
      refine bk_l2i hx hb dX11_ofThousand_62 ?_
      cases hq
      exact bk_iret C hH dX11_ofThousand_63
    · rw [if_neg hc_5] at hq
      refine lv_lload hx hb dX11_ofThousand_27 (lv_at hl 2 rfl) ?_
      refine bk_ldc2 C kl_RX11_403 dX11_ofThousand_29 ?_
      refine lv_lmul hx hb dX11_ofThousand_32 ?_
      refine lv_lstore (lv' := [(6, .long (w6 * 10)), (2, .long w2), (4, .long w4), (8, .int x8)]) hx hb dX11_ofThousand_33 hl (by decide) rfl (fun ls hl => ?_)
      refine lv_lload hx hb dX11_ofThousand_35 (lv_at hl 2 rfl) ?_
      refine bk_ldc2 C kl_RX11_403 dX11_ofThousand_37 ?_
      refine lv_lmul hx hb dX11_ofThousand_40 ?_
      refine lv_lload hx hb dX11_ofThousand_41 (lv_at hl 0 rfl) ?_
      refine lv_lload_n hx hb dX11_ofThousand_43 rfl (lv_at hl 1 rfl) ?_
      obtain ⟨hd_1, hq⟩ := bk_ck_some hq
      refine lv_ldiv hx hb dX11_ofThousand_44 hd_1 ?_
      refine lv_ladd hx hb dX11_ofThousand_45 ?_
      refine lv_topl (fun w4_2 e_3 => ?_)
      have hq := bk_let_eq e_3 hq
      refine lv_lstore (lv' := [(4, .long w4_2), (6, .long (w6 * 10)), (2, .long w2), (8, .int x8)]) hx hb dX11_ofThousand_46 hl (by decide) rfl (fun ls hl => ?_)
      refine lv_lload hx hb dX11_ofThousand_48 (lv_at hl 1 rfl) ?_
      refine lv_lload_n hx hb dX11_ofThousand_50 rfl (lv_at hl 2 rfl) ?_
      obtain ⟨hd_4, hq⟩ := bk_ck_some hq
      refine bk_lrem hx hb dX11_ofThousand_51 hd_4 ?_
      refine lv_lstore (lv' := [(6, .long (bk_remL (w6 * 10) w2)), (4, .long w4_2), (2, .long w2), (8, .int x8)]) hx hb dX11_ofThousand_52 hl (by decide) rfl (fun ls hl => ?_)
      refine lv_iinc (v := (x8 + 1)) (lv' := [(8, .int (x8 + 1)), (6, .long (bk_remL (w6 * 10) w2)), (4, .long w4_2), (2, .long w2)]) hx hb dX11_ofThousand_54 hl (k := 3) rfl rfl (by decide) rfl (fun ls hl => ?_)
      refine lv_goto (tgt := 21) hx hb dX11_ofThousand_57 (by decide) ?_
      exact ih _ _ _ _ _ _ _ _ _ (lv_sub hl [3, 2, 1, 0] rfl) hH hq

set_option maxRecDepth 100000 in
set_option maxHeartbeats 4000000 in
theorem w_X11_ofThousand (C : bk_C G p s m args meth c cX11_ofThousand RX11 9 (some FieldType.int)) : ∀ (V : bk_Val) (w0 : Int64) (w2 : Int64) (H : Heap) (locs : List Loc) (ls : Array Slot) (out : Int32), lv_has ls 9 [(0, .long w0), (2, .long w2)] → bk_H G Y V s.heap H locs → q_X11_ofThousand N Y V w0 w2 = some out → W p l e rm_X11_ofThousand s m args below meth c H locs 0 0 (MQ below (bk_Q G (some (.int out)) Y V) args s 0 0 (bk_A G)) (F0 m 0 ls []) := by
  have hx := C.1
  have hb := C.2.1
  intro V w0 w2 H locs ls out hl hH hq
  unfold q_X11_ofThousand at hq
  refine lv_lload_n hx hb dX11_ofThousand_0 rfl (lv_at hl 1 rfl) ?_
  refine lv_lconst (v := 0) hx hb dX11_ofThousand_1 (by decide) ?_
  refine W.lcmp hx hb dX11_ofThousand_2 ?_
  refine lv_if_gt (tgt := 8) hx hb dX11_ofThousand_3 (by decide) (fun hc_8 => ?_) (fun hc_8 => ?_)
  · rw [if_pos hc_8] at hq
    refine lv_lload_n hx hb dX11_ofThousand_8 rfl (lv_at hl 0 rfl) ?_
    refine lv_lload_n hx hb dX11_ofThousand_9 rfl (lv_at hl 1 rfl) ?_
    obtain ⟨hd_6, hq⟩ := bk_ck_some hq
    refine lv_ldiv hx hb dX11_ofThousand_10 hd_6 ?_
    refine lv_lstore (lv' := [(4, .long (w0 / w2)), (0, .long w0), (2, .long w2)]) hx hb dX11_ofThousand_11 hl (by decide) rfl (fun ls hl => ?_)
    refine lv_lload_n hx hb dX11_ofThousand_13 rfl (lv_at hl 1 rfl) ?_
    refine lv_lload_n hx hb dX11_ofThousand_14 rfl (lv_at hl 2 rfl) ?_
    obtain ⟨hd_7, hq⟩ := bk_ck_some hq
    refine bk_lrem hx hb dX11_ofThousand_15 hd_7 ?_
    refine lv_lstore (lv' := [(6, .long (bk_remL w0 w2)), (4, .long (w0 / w2)), (0, .long w0), (2, .long w2)]) hx hb dX11_ofThousand_16 hl (by decide) rfl (fun ls hl => ?_)
    refine lv_iconst (v := 0) hx hb dX11_ofThousand_18 (by decide) ?_
    refine lv_istore (lv' := [(8, .int 0), (6, .long (bk_remL w0 w2)), (4, .long (w0 / w2)), (0, .long w0), (2, .long w2)]) hx hb dX11_ofThousand_19 hl (by decide) rfl (fun ls hl => ?_)
    exact w_X11_ofThousand_21 C _ _ _ _ _ _ _ _ _ _ (lv_sub hl [4, 2, 1, 0] rfl) hH hq
  · rw [if_neg hc_8] at hq
    refine lv_iconst (v := 0) hx hb dX11_ofThousand_6 (by decide) ?_
    cases hq
    exact bk_iret C hH dX11_ofThousand_7
set_option maxRecDepth 100000 in
theorem c_X11_ofThousand {l : Launch} {G : bk_G} {N : Nat} {Y : bk_Lay} {V : bk_Val} {w0 : Int64} {w2 : Int64} {out : Int32} (hq : q_X11_ofThousand N Y V w0 w2 = some out) : Met l yX11_ofThousand (bk_ws yX11_ofThousand cX11_ofThousand 9 (some FieldType.int)) rm_X11_ofThousand (bk_Pc G [.long w0, .long w2] Y V) (bk_Q G (some (.int out)) Y V) 0 0 (bk_A G) :=
  bk_met (by decide) (Nat.le_of_ble_eq_true rfl) (fun p e s m args below meth c ls C hnm hH hl => w_X11_ofThousand C _ _ _ _ _ _ _ hl hH hq)

def rm_X11_holeAmong : Room := bk_rm 1 0 0 28
set_option maxRecDepth 100000 in
set_option maxHeartbeats 4000000 in
theorem w_X11_holeAmong (C : bk_C G p s m args meth c cX11_holeAmong RX11 5 (some FieldType.int)) : ∀ (V : bk_Val) (a0 : Nat) (w1 : Int64) (H : Heap) (locs : List Loc) (ls : Array Slot) (out : Int32), lv_has ls 5 [(0, .ref a0), (1, .long w1)] → bk_H G Y V s.heap H locs → q_X11_holeAmong N Y V a0 w1 = some out → W p l e rm_X11_holeAmong s m args below meth c H locs 0 0 (MQ below (bk_Q G (some (.int out)) Y V) args s 0 0 (bk_A G)) (F0 m 0 ls []) := by
  have hx := C.1
  have hb := C.2.1
  intro V a0 w1 H locs ls out hl hH hq
  unfold q_X11_holeAmong at hq
  refine lv_bipush (v := 100) hx hb dX11_holeAmong_0 (by decide) ?_
  refine lv_aload_n hx hb dX11_holeAmong_2 rfl (lv_at hl 0 rfl) ?_
  obtain ⟨hs_1, hq⟩ := bk_ck_some hq
  obtain ⟨b_2, hr_3, hq⟩ := bk_bd_some hq
  refine bk_getr C hH fl_RX11_33 hs_1 rfl hr_3 dX11_holeAmong_3 ?_
  obtain ⟨hs_4, hq⟩ := bk_ck_some hq
  obtain ⟨b_5, hr_6, hq⟩ := bk_bd_some hq
  refine bk_getr C hH fl_RX11_115 hs_4 rfl hr_6 dX11_holeAmong_6 ?_
  refine lv_bipush (v := 6) hx hb dX11_holeAmong_9 (by decide) ?_
  obtain ⟨ha_7, hq⟩ := bk_ck_some hq
  obtain ⟨hi_8, hq⟩ := bk_ck_some hq
  refine bk_iald C hH (bk_arr ha_7) (bk_in_vp hi_8) dX11_holeAmong_11 ?_
  refine lv_isub hx hb dX11_holeAmong_12 ?_
  refine bk_i2l hx hb dX11_holeAmong_13 ?_
  refine bk_ldc2 C kl_RX11_339 dX11_holeAmong_14 ?_
  refine lv_lmul hx hb dX11_holeAmong_17 ?_
  refine lv_topl (fun w3_9 e_10 => ?_)
  have hq := bk_let_eq e_10 hq
  refine lv_lstore_n (lv' := [(3, .long w3_9), (0, .ref a0), (1, .long w1)]) hx hb dX11_holeAmong_18 rfl hl (by decide) rfl (fun ls hl => ?_)
  refine lv_lload_n hx hb dX11_holeAmong_19 rfl (lv_at hl 0 rfl) ?_
  refine lv_lload_n hx hb dX11_holeAmong_20 rfl (lv_at hl 0 rfl) ?_
  refine lv_lload_n hx hb dX11_holeAmong_21 rfl (lv_at hl 2 rfl) ?_
  refine lv_ladd hx hb dX11_holeAmong_22 ?_
  obtain ⟨r_12, hr_11, hq⟩ := bk_bd_some hq
  refine bk_callS (rest := []) (As := [.long w3_9, .long (w3_9 + w1)]) (ro := (some (.int r_12))) (Y1 := Y) (V1 := V) C hH hl.1 (c_X11_ofThousand hr_11) mc_X11_ofThousand st_X11_ofThousand lk_RX11_268 rfl ⟨rfl, rfl⟩ ⟨by decide, by decide⟩ rfl (Nat.le_of_ble_eq_true rfl) dX11_holeAmong_23 ⟨by decide, by decide⟩ (fun H locs hH => ?_)
  cases hq
  exact bk_iret C hH dX11_holeAmong_26
set_option maxRecDepth 100000 in
theorem c_X11_holeAmong {l : Launch} {G : bk_G} {N : Nat} {Y : bk_Lay} {V : bk_Val} {a0 : Nat} {w1 : Int64} {out : Int32} (hq : q_X11_holeAmong N Y V a0 w1 = some out) : Met l yX11_holeAmong (bk_ws yX11_holeAmong cX11_holeAmong 5 (some FieldType.int)) rm_X11_holeAmong (bk_Pc G [.ref a0, .long w1] Y V) (bk_Q G (some (.int out)) Y V) 0 0 (bk_A G) :=
  bk_met (by decide) (Nat.le_of_ble_eq_true rfl) (fun p e s m args below meth c ls C hnm hH hl => w_X11_holeAmong C _ _ _ _ _ _ _ hl hH hq)

def rm_X11_weightOfQuarter : Room := bk_rm 2 0 0 42
set_option maxRecDepth 100000 in
set_option maxHeartbeats 4000000 in
theorem w_X11_weightOfQuarter_45 (C : bk_C G p s m args meth c cX11_weightOfQuarter RX11 5 (some FieldType.long)) (k5 : bk_Val → Nat → Int32 → Int64 → Int32 → Option (Int64)) (i5 : ∀ (V : bk_Val) (a0 : Nat) (x1 : Int32) (w2 : Int64) (x4 : Int32) (H : Heap) (locs : List Loc) (ls : Array Slot) (out : Int64), lv_has ls 5 [(0, .ref a0), (1, .int x1), (2, .long w2), (4, .int x4)] → bk_H G Y V s.heap H locs → k5 V a0 x1 w2 x4 = some out → W p l e rm_X11_weightOfQuarter s m args below meth c H locs 0 0 (MQ below (bk_Q G (some (.long out)) Y V) args s 0 0 (bk_A G)) (F0 m 5 ls [])) : ∀ (V : bk_Val) (a0 : Nat) (x1 : Int32) (w2 : Int64) (x4 : Int32) (H : Heap) (locs : List Loc) (ls : Array Slot) (out : Int64), lv_has ls 5 [(0, .ref a0), (1, .int x1), (2, .long w2), (4, .int x4)] → bk_H G Y V s.heap H locs → q_X11_weightOfQuarter_45 N Y k5 V a0 x1 w2 x4 = some out → W p l e rm_X11_weightOfQuarter s m args below meth c H locs 0 0 (MQ below (bk_Q G (some (.long out)) Y V) args s 0 0 (bk_A G)) (F0 m 45 ls []) := by
  have hx := C.1
  have hb := C.2.1
  intro V a0 x1 w2 x4 H locs ls out hl hH hq
  unfold q_X11_weightOfQuarter_45 at hq
  refine lv_iinc (v := (x4 + 1)) (lv' := [(4, .int (x4 + 1)), (0, .ref a0), (1, .int x1), (2, .long w2)]) hx hb dX11_weightOfQuarter_45 hl (k := 3) rfl rfl (by decide) rfl (fun ls hl => ?_)
  refine lv_goto (tgt := 5) hx hb dX11_weightOfQuarter_48 (by decide) ?_
  exact i5 _ _ _ _ _ _ _ _ _ (lv_sub hl [1, 2, 3, 0] rfl) hH hq

set_option maxRecDepth 100000 in
set_option maxHeartbeats 4000000 in
theorem w_X11_weightOfQuarter_5 (C : bk_C G p s m args meth c cX11_weightOfQuarter RX11 5 (some FieldType.long)) : ∀ (n : Nat), ∀ (V : bk_Val) (a0 : Nat) (x1 : Int32) (w2 : Int64) (x4 : Int32) (H : Heap) (locs : List Loc) (ls : Array Slot) (out : Int64), lv_has ls 5 [(0, .ref a0), (1, .int x1), (2, .long w2), (4, .int x4)] → bk_H G Y V s.heap H locs → q_X11_weightOfQuarter_5 N Y n V a0 x1 w2 x4 = some out → W p l e rm_X11_weightOfQuarter s m args below meth c H locs 0 0 (MQ below (bk_Q G (some (.long out)) Y V) args s 0 0 (bk_A G)) (F0 m 5 ls []) := by
  have hx := C.1
  have hb := C.2.1
  intro n
  induction n with
  | zero =>
    intro V a0 x1 w2 x4 H locs ls out hl hH hq
    exact nomatch (show (none : Option (Int64)) = some out from hq)
  | succ n ih =>
    intro V a0 x1 w2 x4 H locs ls out hl hH hq
    unfold q_X11_weightOfQuarter_5 at hq
    refine lv_iload hx hb dX11_weightOfQuarter_5 (lv_at hl 3 rfl) ?_
    refine lv_aload_n hx hb dX11_weightOfQuarter_7 rfl (lv_at hl 0 rfl) ?_
    obtain ⟨hs_1, hq⟩ := bk_ck_some hq
    obtain ⟨b_2, hr_3, hq⟩ := bk_bd_some hq
    refine bk_getr C hH fl_RX11_33 hs_1 rfl hr_3 dX11_weightOfQuarter_8 ?_
    obtain ⟨hs_6, hq⟩ := bk_ck_some hq
    obtain ⟨r_5, hr_4, hq⟩ := bk_bd_some hq
    refine bk_callV (rest := [.int x4]) (As := []) (ro := (some (.int r_5))) (Y1 := Y) (V1 := V) C hH hl.1 (c_X5_inches hr_4) mc_X5_inches mv_X5_inches lk_RX11_248 hs_6 rfl rfl ⟨rfl, rfl⟩ ⟨by decide, by decide⟩ rfl (Nat.le_of_ble_eq_true rfl) dX11_weightOfQuarter_11 ⟨by decide, by decide⟩ (fun H locs hH => ?_)
    refine lv_icmp_ge (tgt := 51) hx hb dX11_weightOfQuarter_14 (by decide) (fun hc_17 => ?_) (fun hc_17 => ?_)
    · rw [if_pos hc_17] at hq
      refine lv_lload_n hx hb dX11_weightOfQuarter_51 rfl (lv_at hl 2 rfl) ?_
      cases hq
      exact bk_lret C hH dX11_weightOfQuarter_52
    · rw [if_neg hc_17] at hq
      refine lv_aload_n hx hb dX11_weightOfQuarter_17 rfl (lv_at hl 0 rfl) ?_
      refine bk_getr C hH fl_RX11_33 hs_1 rfl hr_3 dX11_weightOfQuarter_18 ?_
      refine lv_iload hx hb dX11_weightOfQuarter_21 (lv_at hl 3 rfl) ?_
      obtain ⟨r_8, hr_7, hq⟩ := bk_bd_some hq
      refine bk_callV (rest := []) (As := [.int x4]) (ro := (some (.int r_8))) (Y1 := Y) (V1 := V) C hH hl.1 (c_X5_quarterOf hr_7) mc_X5_quarterOf mv_X5_quarterOf lk_RX11_251 hs_6 rfl rfl ⟨rfl, rfl⟩ ⟨by decide, by decide⟩ rfl (Nat.le_of_ble_eq_true rfl) dX11_weightOfQuarter_23 ⟨by decide, by decide⟩ (fun H locs hH => ?_)
      refine lv_iload_n hx hb dX11_weightOfQuarter_26 rfl (lv_at hl 1 rfl) ?_
      refine lv_icmp_ne (tgt := 45) hx hb dX11_weightOfQuarter_27 (by decide) (fun hc_16 => ?_) (fun hc_16 => ?_)
      · rw [if_neg hc_16] at hq
        exact w_X11_weightOfQuarter_45 C _ ih _ _ _ _ _ _ _ _ _ (lv_sub hl [0, 1, 2, 3] rfl) hH hq
      · rw [if_pos hc_16] at hq
        refine lv_lload_n hx hb dX11_weightOfQuarter_30 rfl (lv_at hl 2 rfl) ?_
        refine lv_aload_n hx hb dX11_weightOfQuarter_31 rfl (lv_at hl 0 rfl) ?_
        obtain ⟨b_9, hr_10, hq⟩ := bk_bd_some hq
        refine bk_getr C hH fl_RX11_63 hs_1 rfl hr_10 dX11_weightOfQuarter_32 ?_
        obtain ⟨hs_11, hq⟩ := bk_ck_some hq
        obtain ⟨b_12, hr_13, hq⟩ := bk_bd_some hq
        refine bk_getr C hH fl_RX11_193 hs_11 rfl hr_13 dX11_weightOfQuarter_35 ?_
        refine lv_iload hx hb dX11_weightOfQuarter_38 (lv_at hl 3 rfl) ?_
        obtain ⟨r_15, hr_14, hq⟩ := bk_bd_some hq
        refine bk_callS (rest := [.long w2]) (As := [.ref b_12, .int x4]) (ro := (some (.long r_15))) (Y1 := Y) (V1 := V) C hH hl.1 (c_X0_totalOfInch hr_14) mc_X0_totalOfInch st_X0_totalOfInch lk_RX11_272 rfl ⟨rfl, rfl⟩ ⟨by decide, by decide⟩ rfl (Nat.le_of_ble_eq_true rfl) dX11_weightOfQuarter_40 ⟨by decide, by decide⟩ (fun H locs hH => ?_)
        refine lv_ladd hx hb dX11_weightOfQuarter_43 ?_
        refine lv_lstore_n (lv' := [(2, .long (w2 + r_15)), (0, .ref a0), (1, .int x1), (4, .int x4)]) hx hb dX11_weightOfQuarter_44 rfl hl (by decide) rfl (fun ls hl => ?_)
        exact w_X11_weightOfQuarter_45 C _ ih _ _ _ _ _ _ _ _ _ (lv_sub hl [1, 2, 0, 3] rfl) hH hq

set_option maxRecDepth 100000 in
set_option maxHeartbeats 4000000 in
theorem w_X11_weightOfQuarter (C : bk_C G p s m args meth c cX11_weightOfQuarter RX11 5 (some FieldType.long)) : ∀ (V : bk_Val) (a0 : Nat) (x1 : Int32) (H : Heap) (locs : List Loc) (ls : Array Slot) (out : Int64), lv_has ls 5 [(0, .ref a0), (1, .int x1)] → bk_H G Y V s.heap H locs → q_X11_weightOfQuarter N Y V a0 x1 = some out → W p l e rm_X11_weightOfQuarter s m args below meth c H locs 0 0 (MQ below (bk_Q G (some (.long out)) Y V) args s 0 0 (bk_A G)) (F0 m 0 ls []) := by
  have hx := C.1
  have hb := C.2.1
  intro V a0 x1 H locs ls out hl hH hq
  unfold q_X11_weightOfQuarter at hq
  refine lv_lconst (v := 0) hx hb dX11_weightOfQuarter_0 (by decide) ?_
  refine lv_lstore_n (lv' := [(2, .long 0), (0, .ref a0), (1, .int x1)]) hx hb dX11_weightOfQuarter_1 rfl hl (by decide) rfl (fun ls hl => ?_)
  refine lv_iconst (v := 0) hx hb dX11_weightOfQuarter_2 (by decide) ?_
  refine lv_istore (lv' := [(4, .int 0), (2, .long 0), (0, .ref a0), (1, .int x1)]) hx hb dX11_weightOfQuarter_3 hl (by decide) rfl (fun ls hl => ?_)
  exact w_X11_weightOfQuarter_5 C _ _ _ _ _ _ _ _ _ _ (lv_sub hl [2, 3, 1, 0] rfl) hH hq
set_option maxRecDepth 100000 in
theorem c_X11_weightOfQuarter {l : Launch} {G : bk_G} {N : Nat} {Y : bk_Lay} {V : bk_Val} {a0 : Nat} {x1 : Int32} {out : Int64} (hq : q_X11_weightOfQuarter N Y V a0 x1 = some out) : Met l yX11_weightOfQuarter (bk_ws yX11_weightOfQuarter cX11_weightOfQuarter 5 (some FieldType.long)) rm_X11_weightOfQuarter (bk_Pc G [.ref a0, .int x1] Y V) (bk_Q G (some (.long out)) Y V) 0 0 (bk_A G) :=
  bk_met (by decide) (Nat.le_of_ble_eq_true rfl) (fun p e s m args below meth c ls C hnm hH hl => w_X11_weightOfQuarter C _ _ _ _ _ _ _ hl hH hq)

def rm_X11_tacks : Room := bk_rm 9 1 6 220
set_option maxRecDepth 100000 in
set_option maxHeartbeats 4000000 in
theorem w_X11_tacks_55 {XC : String → State → State → Prop} (C : bk_C G p s m args meth c cX11_tacks RX11 6 (some FieldType.int)) (hst : l.stackTraces = false) (hT9 : ∀ x ∈ c.exceptionTable.toList, False) (k16 : bk_Val → Nat → Int32 → Int32 → Int32 → Int32 → Option (Nat ⊕ (Int32))) (i16 : ∀ (V : bk_Val) (a0 : Nat) (x1 : Int32) (x2 : Int32) (x3 : Int32) (x4 : Int32) (H : Heap) (locs : List Loc) (ls : Array Slot) (out : Nat ⊕ (Int32)), lv_has ls 6 [(0, .ref a0), (1, .int x1), (2, .int x2), (3, .int x3), (4, .int x4)] → bk_H G Y V s.heap H locs → k16 V a0 x1 x2 x3 x4 = some out → W p l e rm_X11_tacks s m args below meth c H locs 1 6 (vx_MQ below (bk_QX (fun (o : Int32) => bk_Q G (some (.int o)) Y V) out) XC args s 1 6 (bk_A G)) (F0 m 16 ls [])) : ∀ (V : bk_Val) (a0 : Nat) (x1 : Int32) (x2 : Int32) (x3 : Int32) (x4 : Int32) (H : Heap) (locs : List Loc) (ls : Array Slot) (out : Nat ⊕ (Int32)), lv_has ls 6 [(0, .ref a0), (1, .int x1), (2, .int x2), (3, .int x3), (4, .int x4)] → bk_H G Y V s.heap H locs → q_X11_tacks_55 N Y k16 V a0 x1 x2 x3 x4 = some out → W p l e rm_X11_tacks s m args below meth c H locs 1 6 (vx_MQ below (bk_QX (fun (o : Int32) => bk_Q G (some (.int o)) Y V) out) XC args s 1 6 (bk_A G)) (F0 m 55 ls []) := by
  have hx := C.1
  have hb := C.2.1
  intro V a0 x1 x2 x3 x4 H locs ls out hl hH hq
  unfold q_X11_tacks_55 at hq
  refine lv_iinc (v := (x4 + 1)) (lv' := [(4, .int (x4 + 1)), (0, .ref a0), (1, .int x1), (2, .int x2), (3, .int x3)]) hx hb dX11_tacks_55 hl (k := 4) rfl rfl (by decide) rfl (fun ls hl => ?_)
  refine lv_goto (tgt := 16) hx hb dX11_tacks_58 (by decide) ?_
  exact i16 _ _ _ _ _ _ _ _ _ _ (lv_sub hl [1, 2, 3, 4, 0] rfl) hH hq

set_option maxRecDepth 100000 in
set_option maxHeartbeats 4000000 in
theorem w_X11_tacks_16 {XC : String → State → State → Prop} (C : bk_C G p s m args meth c cX11_tacks RX11 6 (some FieldType.int)) (hst : l.stackTraces = false) (hT9 : ∀ x ∈ c.exceptionTable.toList, False) : ∀ (n : Nat), ∀ (V : bk_Val) (a0 : Nat) (x1 : Int32) (x2 : Int32) (x3 : Int32) (x4 : Int32) (H : Heap) (locs : List Loc) (ls : Array Slot) (out : Nat ⊕ (Int32)), lv_has ls 6 [(0, .ref a0), (1, .int x1), (2, .int x2), (3, .int x3), (4, .int x4)] → bk_H G Y V s.heap H locs → q_X11_tacks_16 N Y n V a0 x1 x2 x3 x4 = some out → W p l e rm_X11_tacks s m args below meth c H locs 1 6 (vx_MQ below (bk_QX (fun (o : Int32) => bk_Q G (some (.int o)) Y V) out) XC args s 1 6 (bk_A G)) (F0 m 16 ls []) := by
  have hx := C.1
  have hb := C.2.1
  intro n
  induction n with
  | zero =>
    intro V a0 x1 x2 x3 x4 H locs ls out hl hH hq
    exact nomatch (show (none : Option (Nat ⊕ (Int32))) = some out from hq)
  | succ n ih =>
    intro V a0 x1 x2 x3 x4 H locs ls out hl hH hq
    unfold q_X11_tacks_16 at hq
    refine lv_iload hx hb dX11_tacks_16 (lv_at hl 4 rfl) ?_
    refine lv_bipush (v := 40) hx hb dX11_tacks_18 (by decide) ?_
    refine lv_icmp_ge (tgt := 61) hx hb dX11_tacks_20 (by decide) (fun hc_24 => ?_) (fun hc_24 => ?_)
    · rw [if_pos hc_24] at hq
      refine lv_iload_n hx hb dX11_tacks_61 rfl (lv_at hl 1 rfl) ?_
      refine lv_if_ne (tgt := 67) hx hb dX11_tacks_62 (by decide) (fun hc_12 => ?_) (fun hc_12 => ?_)
      · rw [if_neg hc_12] at hq
        refine lv_iload_n hx hb dX11_tacks_67 rfl (lv_at hl 1 rfl) ?_
        refine lv_iconst (v := 1) hx hb dX11_tacks_68 (by decide) ?_
        refine lv_icmp_eq (tgt := 77) hx hb dX11_tacks_69 (by decide) (fun hc_11 => ?_) (fun hc_11 => ?_)
        · rw [if_pos hc_11] at hq
          refine lv_iload_n hx hb dX11_tacks_77 rfl (lv_at hl 3 rfl) ?_
          refine lv_goto (tgt := 92) hx hb dX11_tacks_78 (by decide) ?_
          refine vx_ret ?_
          cases hq
          exact bk_iret C hH dX11_tacks_92
        · rw [if_neg hc_11] at hq
          refine lv_iload_n hx hb dX11_tacks_72 rfl (lv_at hl 3 rfl) ?_
          refine lv_iconst (v := (-1)) hx hb dX11_tacks_73 (by decide) ?_
          refine lv_icmp_ne (tgt := 81) hx hb dX11_tacks_74 (by decide) (fun hc_10 => ?_) (fun hc_10 => ?_)
          · rw [if_neg hc_10] at hq
            refine lv_aload_n hx hb dX11_tacks_81 rfl (lv_at hl 0 rfl) ?_
            obtain ⟨hs_1, hq⟩ := bk_ck_some hq
            obtain ⟨b_2, hr_3, hq⟩ := bk_bd_some hq
            refine bk_getr C hH fl_RX11_33 hs_1 rfl hr_3 dX11_tacks_82 ?_
            obtain ⟨hs_4, hq⟩ := bk_ck_some hq
            obtain ⟨b_5, hr_6, hq⟩ := bk_bd_some hq
            refine bk_getr C hH fl_RX11_137 hs_4 rfl hr_6 dX11_tacks_85 ?_
            refine lv_iload_n hx hb dX11_tacks_88 rfl (lv_at hl 3 rfl) ?_
            obtain ⟨hs_9, hq⟩ := bk_ck_some hq
            obtain ⟨r_8, hr_7, hq⟩ := bk_bd_some hq
            refine bk_callV (rest := []) (As := [.int x3]) (ro := (some (.int r_8))) (Y1 := Y) (V1 := V) C hH hl.1 (c_X2_firstHourFitting hr_7) mc_X2_firstHourFitting mv_X2_firstHourFitting lk_RX11_389 hs_9 rfl rfl ⟨rfl, rfl⟩ ⟨by decide, by decide⟩ rfl (Nat.le_of_ble_eq_true rfl) dX11_tacks_89 ⟨by decide, by decide⟩ (fun H locs hH => ?_)
            refine vx_ret ?_
            cases hq
            exact bk_iret C hH dX11_tacks_92
          · rw [if_pos hc_10] at hq
            refine lv_iload_n hx hb dX11_tacks_77 rfl (lv_at hl 3 rfl) ?_
            refine lv_goto (tgt := 92) hx hb dX11_tacks_78 (by decide) ?_
            refine vx_ret ?_
            cases hq
            exact bk_iret C hH dX11_tacks_92
      · rw [if_pos hc_12] at hq
        refine lv_iload_n hx hb dX11_tacks_65 rfl (lv_at hl 2 rfl) ?_
        refine vx_ret ?_
        cases hq
        exact bk_iret C hH dX11_tacks_66
    · rw [if_neg hc_24] at hq
      refine lv_aload_n hx hb dX11_tacks_23 rfl (lv_at hl 0 rfl) ?_
      obtain ⟨hs_13, hq⟩ := bk_ck_some hq
      obtain ⟨b_14, hr_15, hq⟩ := bk_bd_some hq
      refine bk_getr C hH fl_RX11_33 hs_13 rfl hr_15 dX11_tacks_24 ?_
      obtain ⟨hs_16, hq⟩ := bk_ck_some hq
      obtain ⟨b_17, hr_18, hq⟩ := bk_bd_some hq
      refine bk_getr C hH fl_RX11_137 hs_16 rfl hr_18 dX11_tacks_27 ?_
      refine lv_iload hx hb dX11_tacks_30 (lv_at hl 4 rfl) ?_
      obtain ⟨hs_21, hq⟩ := bk_ck_some hq
      obtain ⟨r_20, hr_19, hq⟩ := bk_bd_some hq
      refine bk_callV (rest := []) (As := [.int x4]) (ro := (some (.int r_20))) (Y1 := Y) (V1 := V) C hH hl.1 (c_X2_hoursFitting hr_19) mc_X2_hoursFitting mv_X2_hoursFitting lk_RX11_386 hs_21 rfl rfl ⟨rfl, rfl⟩ ⟨by decide, by decide⟩ rfl (Nat.le_of_ble_eq_true rfl) dX11_tacks_32 ⟨by decide, by decide⟩ (fun H locs hH => ?_)
      refine lv_istore (lv' := [(5, .int r_20), (0, .ref a0), (1, .int x1), (2, .int x2), (3, .int x3), (4, .int x4)]) hx hb dX11_tacks_35 hl (by decide) rfl (fun ls hl => ?_)
      refine lv_iload_n hx hb dX11_tacks_37 rfl (lv_at hl 3 rfl) ?_
      refine lv_iload hx hb dX11_tacks_38 (lv_at hl 0 rfl) ?_
      refine lv_iadd hx hb dX11_tacks_40 ?_
      refine lv_istore_n (lv' := [(2, .int (x2 + r_20)), (5, .int r_20), (0, .ref a0), (1, .int x1), (3, .int x3), (4, .int x4)]) hx hb dX11_tacks_41 rfl hl (by decide) rfl (fun ls hl => ?_)
      refine lv_iload hx hb dX11_tacks_42 (lv_at hl 1 rfl) ?_
      refine lv_if_le (tgt := 55) hx hb dX11_tacks_44 (by decide) (fun hc_23 => ?_) (fun hc_23 => ?_)
      · rw [if_pos hc_23] at hq
        exact w_X11_tacks_55 C hst hT9 _ ih _ _ _ _ _ _ _ _ _ _ (lv_sub hl [2, 3, 0, 4, 5] rfl) hH hq
      · rw [if_neg hc_23] at hq
        refine lv_iload_n hx hb dX11_tacks_47 rfl (lv_at hl 4 rfl) ?_
        refine lv_iconst (v := (-1)) hx hb dX11_tacks_48 (by decide) ?_
        refine lv_icmp_ne (tgt := 55) hx hb dX11_tacks_49 (by decide) (fun hc_22 => ?_) (fun hc_22 => ?_)
        · rw [if_neg hc_22] at hq
          exact w_X11_tacks_55 C hst hT9 _ ih _ _ _ _ _ _ _ _ _ _ (lv_sub hl [2, 3, 0, 4, 5] rfl) hH hq
        · rw [if_pos hc_22] at hq
          refine lv_iload hx hb dX11_tacks_52 (lv_at hl 5 rfl) ?_
          refine lv_istore_n (lv' := [(3, .int x4), (2, .int (x2 + r_20)), (5, .int r_20), (0, .ref a0), (1, .int x1), (4, .int x4)]) hx hb dX11_tacks_54 rfl hl (by decide) rfl (fun ls hl => ?_)
          exact w_X11_tacks_55 C hst hT9 _ ih _ _ _ _ _ _ _ _ _ _ (lv_sub hl [3, 4, 1, 0, 5] rfl) hH hq

set_option maxRecDepth 100000 in
set_option maxHeartbeats 4000000 in
theorem w_X11_tacks (C : bk_C G p s m args meth c cX11_tacks RX11 6 (some FieldType.int)) (hst : l.stackTraces = false) (hT9 : ∀ x ∈ c.exceptionTable.toList, False) : ∀ (V : bk_Val) (a0 : Nat) (x1 : Int32) (H : Heap) (locs : List Loc) (ls : Array Slot) (out : Nat ⊕ (Int32)), lv_has ls 6 [(0, .ref a0), (1, .int x1)] → bk_H G Y V s.heap H locs → q_X11_tacks N Y V a0 x1 = some out → W p l e rm_X11_tacks s m args below meth c H locs 0 0 (vx_MQ below (bk_QX (fun (o : Int32) => bk_Q G (some (.int o)) Y V) out) (bk_XC G Y V out) args s 1 6 (bk_A G)) (F0 m 0 ls []) := by
  have hx := C.1
  have hb := C.2.1
  intro V a0 x1 H locs ls out hl hH hq
  unfold q_X11_tacks at hq
  refine lv_iload_n hx hb dX11_tacks_0 rfl (lv_at hl 1 rfl) ?_
  refine lv_iconst (v := 0) hx hb dX11_tacks_1 (by decide) ?_
  refine lv_iconst (v := 2) hx hb dX11_tacks_2 (by decide) ?_
  obtain ⟨r_26, hr_25, hq⟩ := bk_bd_some hq
  refine bk_callS (rest := []) (As := [.int x1, .int 0, .int 2]) (ro := (some (.int r_26))) (Y1 := Y) (V1 := V) C hH hl.1 (c_X11_isWithin hr_25) mc_X11_isWithin st_X11_isWithin lk_RX11_78 rfl ⟨rfl, rfl⟩ ⟨by decide, by decide⟩ rfl (Nat.le_of_ble_eq_true rfl) dX11_tacks_3 ⟨by decide, by decide⟩ (fun H locs hH => ?_)
  rcases bk_bdx_cases hq with ⟨x9_28, hr_27, ho_29⟩ | ⟨u6, hr_27, hq⟩
  · exact bk_callSt (rest := []) (As := [.int r_26]) (e9 := x9_28) C hT9 hH hl.1 (c_X11_needElement hst hr_27) ho_29 mc_X11_needElement st_X11_needElement ml_RX11_214 rfl ⟨rfl, rfl⟩ ⟨by decide, by decide⟩ rfl (Nat.le_of_ble_eq_true rfl) dX11_tacks_6 ⟨by decide, by decide⟩ (by decide) (by decide)
  · refine bk_callSr (rest := []) (As := [.int r_26]) (o1 := u6) (ro := none) (Y1 := Y) (V1 := V) rfl C hH hl.1 (c_X11_needElement hst hr_27) mc_X11_needElement st_X11_needElement ml_RX11_214 rfl ⟨rfl, rfl⟩ ⟨by decide, by decide⟩ rfl (Nat.le_of_ble_eq_true rfl) dX11_tacks_6 ⟨by decide, by decide⟩ (fun H locs hH => ?_)
    refine W.widen (k := 1) (n := 6) (by decide) (by decide) ?_
    refine lv_iconst (v := 0) hx hb dX11_tacks_9 (by decide) ?_
    refine lv_istore_n (lv' := [(2, .int 0), (0, .ref a0), (1, .int x1)]) hx hb dX11_tacks_10 rfl hl (by decide) rfl (fun ls hl => ?_)
    refine lv_iconst (v := (-1)) hx hb dX11_tacks_11 (by decide) ?_
    refine lv_istore_n (lv' := [(3, .int (-1)), (2, .int 0), (0, .ref a0), (1, .int x1)]) hx hb dX11_tacks_12 rfl hl (by decide) rfl (fun ls hl => ?_)
    refine lv_iconst (v := 0) hx hb dX11_tacks_13 (by decide) ?_
    refine lv_istore (lv' := [(4, .int 0), (3, .int (-1)), (2, .int 0), (0, .ref a0), (1, .int x1)]) hx hb dX11_tacks_14 hl (by decide) rfl (fun ls hl => ?_)
    exact w_X11_tacks_16 C hst hT9 _ _ _ _ _ _ _ _ _ _ _ (lv_sub hl [3, 4, 2, 1, 0] rfl) hH hq
set_option maxRecDepth 100000 in
theorem c_X11_tacks {l : Launch} {G : bk_G} {N : Nat} {Y : bk_Lay} {V : bk_Val} (hst : l.stackTraces = false) {a0 : Nat} {x1 : Int32} {out : Nat ⊕ (Int32)} (hq : q_X11_tacks N Y V a0 x1 = some out) : vx_Met l yX11_tacks (bk_ws yX11_tacks cX11_tacks 6 (some FieldType.int)) rm_X11_tacks (bk_Pc G [.ref a0, .int x1] Y V) (bk_QX (fun (o : Int32) => bk_Q G (some (.int o)) Y V) out) (bk_XC G Y V out) 1 6 (bk_A G) :=
  bk_metx (by decide) (Nat.le_of_ble_eq_true rfl) (fun p e s m args below meth c ls C hT9 hH hl => w_X11_tacks C hst hT9 _ _ _ _ _ _ _ hl hH hq)

def rm_X11_fault : Room := bk_rm 0 0 0 0
set_option maxRecDepth 100000 in
set_option maxHeartbeats 4000000 in
theorem w_X11_fault (C : bk_C G p s m args meth c cX11_fault RX11 1 (some FieldType.int)) : ∀ (V : bk_Val) (a0 : Nat) (H : Heap) (locs : List Loc) (ls : Array Slot) (out : Int32), lv_has ls 1 [(0, .ref a0)] → bk_H G Y V s.heap H locs → q_X11_fault N Y V a0 = some out → W p l e rm_X11_fault s m args below meth c H locs 0 0 (MQ below (bk_Q G (some (.int out)) Y V) args s 0 0 (bk_A G)) (F0 m 0 ls []) := by
  have hx := C.1
  have hb := C.2.1
  intro V a0 H locs ls out hl hH hq
  unfold q_X11_fault at hq
  refine lv_aload_n hx hb dX11_fault_0 rfl (lv_at hl 0 rfl) ?_
  obtain ⟨hs_1, hq⟩ := bk_ck_some hq
  refine bk_geti C hH fl_RX11_40 hs_1 rfl dX11_fault_1 ?_
  cases hq
  exact bk_iret C hH dX11_fault_4
set_option maxRecDepth 100000 in
theorem c_X11_fault {l : Launch} {G : bk_G} {N : Nat} {Y : bk_Lay} {V : bk_Val} {a0 : Nat} {out : Int32} (hq : q_X11_fault N Y V a0 = some out) : Met l yX11_fault (bk_ws yX11_fault cX11_fault 1 (some FieldType.int)) rm_X11_fault (bk_Pc G [.ref a0] Y V) (bk_Q G (some (.int out)) Y V) 0 0 (bk_A G) :=
  bk_met (by decide) (Nat.le_of_ble_eq_true rfl) (fun p e s m args below meth c ls C hnm hH hl => w_X11_fault C _ _ _ _ _ _ hl hH hq)

def rm_X11_believe : Room := bk_rm 3 1 5 73
set_option maxRecDepth 100000 in
set_option maxHeartbeats 4000000 in
theorem w_X11_believe (C : bk_C G p s m args meth c cX11_believe RX11 2 (some FieldType.int)) : ∀ (Y : bk_Lay) (V : bk_Val) (a0 : Nat) (a1 : Nat) (H : Heap) (locs : List Loc) (ls : Array Slot) (out : Int32 × bk_Lay × bk_Val), lv_has ls 2 [(0, .ref a0), (1, .ref a1)] → bk_H G Y V s.heap H locs → q_X11_believe N Y V a0 a1 = some out → W p l e rm_X11_believe s m args below meth c H locs 0 0 (MQ below (bk_Q G (some (.int out.1)) out.2.1 out.2.2) args s 1 5 (bk_A G)) (F0 m 0 ls []) := by
  have hx := C.1
  have hb := C.2.1
  intro Y V a0 a1 H locs ls out hl hH hq
  unfold q_X11_believe at hq
  refine lv_aload_n hx hb dX11_believe_0 rfl (lv_at hl 0 rfl) ?_
  refine lv_aload_n hx hb dX11_believe_1 rfl (lv_at hl 0 rfl) ?_
  obtain ⟨hs_1, hq⟩ := bk_ck_some hq
  obtain ⟨b_2, hr_3, hq⟩ := bk_bd_some hq
  refine bk_getr C hH fl_RX11_63 hs_1 rfl hr_3 dX11_believe_2 ?_
  obtain ⟨hs_4, hq⟩ := bk_ck_some hq
  refine bk_geti C hH fl_RX11_144 hs_4 rfl dX11_believe_5 ?_
  refine lv_aload_n hx hb dX11_believe_8 rfl (lv_at hl 0 rfl) ?_
  refine bk_getr C hH fl_RX11_63 hs_1 rfl hr_3 dX11_believe_9 ?_
  refine bk_geti C hH fl_RX11_147 hs_4 rfl dX11_believe_12 ?_
  refine lv_aload_n hx hb dX11_believe_15 rfl (lv_at hl 0 rfl) ?_
  refine bk_getr C hH fl_RX11_63 hs_1 rfl hr_3 dX11_believe_16 ?_
  refine bk_geti C hH fl_RX11_176 hs_4 rfl dX11_believe_19 ?_
  refine lv_aload_n hx hb dX11_believe_22 rfl (lv_at hl 1 rfl) ?_
  obtain ⟨Y_6, V_7, hr_5, hq⟩ := bk_bd2_some hq
  refine bk_callV (rest := []) (As := [.int (bk_rI V b_2 1), .int (bk_rI V b_2 2), .int (bk_rI V b_2 3), .ref a1]) (ro := none) (Y1 := Y_6) (V1 := V_7) C hH hl.1 (c_X11_keepAct hr_5) mc_X11_keepAct mv_X11_keepAct lk_RX11_197 hs_1 rfl rfl ⟨rfl, rfl⟩ ⟨by decide, by decide⟩ rfl (Nat.le_of_ble_eq_true rfl) dX11_believe_23 ⟨by decide, by decide⟩ (fun H locs hH => ?_)
  refine W.widen (k := 1) (n := 5) (by decide) (by decide) ?_
  refine lv_aload_n hx hb dX11_believe_26 rfl (lv_at hl 0 rfl) ?_
  obtain ⟨hs_8, hq⟩ := bk_ck_some hq
  obtain ⟨b_9, hr_10, hq⟩ := bk_bd_some hq
  refine bk_getr C hH fl_RX11_19 hs_8 rfl hr_10 dX11_believe_27 ?_
  obtain ⟨hs_13, hq⟩ := bk_ck_some hq
  obtain ⟨V_12, hr_11, hq⟩ := bk_bd_some hq
  refine bk_callV (rest := []) (As := []) (ro := none) (Y1 := Y_6) (V1 := V_12) C hH hl.1 (c_X3_forget hr_11) mc_X3_forget mv_X3_forget lk_RX11_112 hs_13 rfl rfl ⟨rfl, rfl⟩ ⟨by decide, by decide⟩ rfl (Nat.le_of_ble_eq_true rfl) dX11_believe_30 ⟨by decide, by decide⟩ (fun H locs hH => ?_)
  refine lv_aload_n hx hb dX11_believe_33 rfl (lv_at hl 1 rfl) ?_
  obtain ⟨r_15, hr_14, hq⟩ := bk_bd_some hq
  refine bk_callS (rest := []) (As := [.ref a1]) (ro := (some (.int r_15))) (Y1 := Y_6) (V1 := V_12) C hH hl.1 (c_X0_likeliest hr_14) mc_X0_likeliest st_X0_likeliest lk_RX11_283 rfl ⟨rfl, rfl⟩ ⟨by decide, by decide⟩ rfl (Nat.le_of_ble_eq_true rfl) dX11_believe_34 ⟨by decide, by decide⟩ (fun H locs hH => ?_)
  cases hq
  exact bk_iret C hH dX11_believe_37
set_option maxRecDepth 100000 in
theorem c_X11_believe {l : Launch} {G : bk_G} {N : Nat} {Y : bk_Lay} {V : bk_Val} {a0 : Nat} {a1 : Nat} {out : Int32 × bk_Lay × bk_Val} (hq : q_X11_believe N Y V a0 a1 = some out) : Met l yX11_believe (bk_ws yX11_believe cX11_believe 2 (some FieldType.int)) rm_X11_believe (bk_Pc G [.ref a0, .ref a1] Y V) (bk_Q G (some (.int out.1)) out.2.1 out.2.2) 1 5 (bk_A G) :=
  bk_met (by decide) (Nat.le_of_ble_eq_true rfl) (fun p e s m args below meth c ls C hnm hH hl => w_X11_believe C _ _ _ _ _ _ _ _ hl hH hq)

def rm_X11_listen : Room := bk_rm 4 2 341 94
set_option maxRecDepth 100000 in
set_option maxHeartbeats 4000000 in
theorem w_X11_listen_20 (C : bk_C G p s m args meth c cX11_listen RX11 5 (some FieldType.int)) : ∀ (Y : bk_Lay) (V : bk_Val) (a0 : Nat) (H : Heap) (locs : List Loc) (ls : Array Slot) (out : Int32 × bk_Lay × bk_Val), lv_has ls 5 [(0, .ref a0)] → bk_H G Y V s.heap H locs → q_X11_listen_20 N Y V a0 = some out → W p l e rm_X11_listen s m args below meth c H locs 0 0 (MQ below (bk_Q G (some (.int out.1)) out.2.1 out.2.2) args s 2 341 (bk_A G)) (F0 m 20 ls []) := by
  have hx := C.1
  have hb := C.2.1
  intro Y V a0 H locs ls out hl hH hq
  unfold q_X11_listen_20 at hq
  refine lv_aload_n hx hb dX11_listen_20 rfl (lv_at hl 0 rfl) ?_
  obtain ⟨hs_4, hq⟩ := bk_ck_some hq
  obtain ⟨r_2, V_3, hr_1, hq⟩ := bk_bd2_some hq
  refine bk_callV (rest := []) (As := []) (ro := (some (.int r_2))) (Y1 := Y) (V1 := V_3) C hH hl.1 (c_X11_refuseAct hr_1) mc_X11_refuseAct mv_X11_refuseAct lk_RX11_189 hs_4 rfl rfl ⟨rfl, rfl⟩ ⟨by decide, by decide⟩ rfl (Nat.le_of_ble_eq_true rfl) dX11_listen_21 ⟨by decide, by decide⟩ (fun H locs hH => ?_)
  refine W.widen (k := 2) (n := 341) (by decide) (by decide) ?_
  cases hq
  exact bk_iret C hH dX11_listen_24

set_option maxRecDepth 100000 in
set_option maxHeartbeats 4000000 in
theorem w_X11_listen_83 (C : bk_C G p s m args meth c cX11_listen RX11 5 (some FieldType.int)) (k42 : bk_Lay → bk_Val → Nat → Int32 → Int32 → Nat → Int32 → Option (Int32 × bk_Lay × bk_Val)) (i42 : ∀ (Y : bk_Lay) (V : bk_Val) (a0 : Nat) (x1 : Int32) (x2 : Int32) (a3 : Nat) (x4 : Int32) (H : Heap) (locs : List Loc) (ls : Array Slot) (out : Int32 × bk_Lay × bk_Val), lv_has ls 5 [(0, .ref a0), (1, .int x1), (2, .int x2), (3, .ref a3), (4, .int x4)] → bk_H G Y V s.heap H locs → k42 Y V a0 x1 x2 a3 x4 = some out → W p l e rm_X11_listen s m args below meth c H locs 1 336 (MQ below (bk_Q G (some (.int out.1)) out.2.1 out.2.2) args s 2 341 (bk_A G)) (F0 m 42 ls [])) : ∀ (Y : bk_Lay) (V : bk_Val) (a0 : Nat) (x1 : Int32) (x2 : Int32) (a3 : Nat) (x4 : Int32) (H : Heap) (locs : List Loc) (ls : Array Slot) (out : Int32 × bk_Lay × bk_Val), lv_has ls 5 [(0, .ref a0), (1, .int x1), (2, .int x2), (3, .ref a3), (4, .int x4)] → bk_H G Y V s.heap H locs → q_X11_listen_83 N k42 Y V a0 x1 x2 a3 x4 = some out → W p l e rm_X11_listen s m args below meth c H locs 1 336 (MQ below (bk_Q G (some (.int out.1)) out.2.1 out.2.2) args s 2 341 (bk_A G)) (F0 m 83 ls []) := by
  have hx := C.1
  have hb := C.2.1
  intro Y V a0 x1 x2 a3 x4 H locs ls out hl hH hq
  unfold q_X11_listen_83 at hq
  refine lv_iinc (v := (x4 + 1)) (lv' := [(4, .int (x4 + 1)), (0, .ref a0), (1, .int x1), (2, .int x2), (3, .ref a3)]) hx hb dX11_listen_83 hl (k := 4) rfl rfl (by decide) rfl (fun ls hl => ?_)
  refine lv_goto (tgt := 42) hx hb dX11_listen_86 (by decide) ?_
  exact i42 _ _ _ _ _ _ _ _ _ _ _ (lv_sub hl [1, 2, 3, 4, 0] rfl) hH hq

set_option maxRecDepth 100000 in
set_option maxHeartbeats 4000000 in
theorem w_X11_listen_42 (C : bk_C G p s m args meth c cX11_listen RX11 5 (some FieldType.int)) : ∀ (n : Nat), ∀ (Y : bk_Lay) (V : bk_Val) (a0 : Nat) (x1 : Int32) (x2 : Int32) (a3 : Nat) (x4 : Int32) (H : Heap) (locs : List Loc) (ls : Array Slot) (out : Int32 × bk_Lay × bk_Val), lv_has ls 5 [(0, .ref a0), (1, .int x1), (2, .int x2), (3, .ref a3), (4, .int x4)] → bk_H G Y V s.heap H locs → q_X11_listen_42 N n Y V a0 x1 x2 a3 x4 = some out → W p l e rm_X11_listen s m args below meth c H locs 1 336 (MQ below (bk_Q G (some (.int out.1)) out.2.1 out.2.2) args s 2 341 (bk_A G)) (F0 m 42 ls []) := by
  have hx := C.1
  have hb := C.2.1
  intro n
  induction n with
  | zero =>
    intro Y V a0 x1 x2 a3 x4 H locs ls out hl hH hq
    exact nomatch (show (none : Option (Int32 × bk_Lay × bk_Val)) = some out from hq)
  | succ n ih =>
    intro Y V a0 x1 x2 a3 x4 H locs ls out hl hH hq
    unfold q_X11_listen_42 at hq
    refine lv_iload hx hb dX11_listen_42 (lv_at hl 4 rfl) ?_
    refine lv_aload_n hx hb dX11_listen_44 rfl (lv_at hl 0 rfl) ?_
    obtain ⟨hs_5, hq⟩ := bk_ck_some hq
    obtain ⟨b_6, hr_7, hq⟩ := bk_bd_some hq
    refine bk_getr C hH fl_RX11_33 hs_5 rfl hr_7 dX11_listen_45 ?_
    obtain ⟨hs_10, hq⟩ := bk_ck_some hq
    obtain ⟨r_9, hr_8, hq⟩ := bk_bd_some hq
    refine bk_callV (rest := [.int x4]) (As := []) (ro := (some (.int r_9))) (Y1 := Y) (V1 := V) C hH hl.1 (c_X5_inches hr_8) mc_X5_inches mv_X5_inches lk_RX11_248 hs_10 rfl rfl ⟨rfl, rfl⟩ ⟨by decide, by decide⟩ rfl (Nat.le_of_ble_eq_true rfl) dX11_listen_48 ⟨by decide, by decide⟩ (fun H locs hH => ?_)
    refine lv_icmp_ge (tgt := 89) hx hb dX11_listen_51 (by decide) (fun hc_24 => ?_) (fun hc_24 => ?_)
    · rw [if_pos hc_24] at hq
      refine lv_aload_n hx hb dX11_listen_89 rfl (lv_at hl 0 rfl) ?_
      refine lv_aload_n hx hb dX11_listen_90 rfl (lv_at hl 3 rfl) ?_
      obtain ⟨r_12, Y_13, V_14, hr_11, hq⟩ := bk_bd3_some hq
      refine bk_callV (rest := []) (As := [.ref a3]) (ro := (some (.int r_12))) (Y1 := Y_13) (V1 := V_14) C hH hl.1 (c_X11_believe hr_11) mc_X11_believe mv_X11_believe lk_RX11_244 hs_5 rfl rfl ⟨rfl, rfl⟩ ⟨by decide, by decide⟩ rfl (Nat.le_of_ble_eq_true rfl) dX11_listen_91 ⟨by decide, by decide⟩ (fun H locs hH => ?_)
      refine W.widen (k := 2) (n := 341) (by decide) (by decide) ?_
      cases hq
      exact bk_iret C hH dX11_listen_94
    · rw [if_neg hc_24] at hq
      refine lv_aload_n hx hb dX11_listen_54 rfl (lv_at hl 0 rfl) ?_
      refine bk_getr C hH fl_RX11_33 hs_5 rfl hr_7 dX11_listen_55 ?_
      refine lv_iload hx hb dX11_listen_58 (lv_at hl 4 rfl) ?_
      obtain ⟨r_16, hr_15, hq⟩ := bk_bd_some hq
      refine bk_callV (rest := []) (As := [.int x4]) (ro := (some (.int r_16))) (Y1 := Y) (V1 := V) C hH hl.1 (c_X5_quarterOf hr_15) mc_X5_quarterOf mv_X5_quarterOf lk_RX11_251 hs_10 rfl rfl ⟨rfl, rfl⟩ ⟨by decide, by decide⟩ rfl (Nat.le_of_ble_eq_true rfl) dX11_listen_60 ⟨by decide, by decide⟩ (fun H locs hH => ?_)
      refine lv_iload_n hx hb dX11_listen_63 rfl (lv_at hl 1 rfl) ?_
      refine lv_icmp_ne (tgt := 83) hx hb dX11_listen_64 (by decide) (fun hc_23 => ?_) (fun hc_23 => ?_)
      · rw [if_neg hc_23] at hq
        exact w_X11_listen_83 C _ ih _ _ _ _ _ _ _ _ _ _ _ (lv_sub hl [0, 1, 2, 3, 4] rfl) hH hq
      · rw [if_pos hc_23] at hq
        refine lv_aload_n hx hb dX11_listen_67 rfl (lv_at hl 3 rfl) ?_
        refine lv_iload hx hb dX11_listen_68 (lv_at hl 4 rfl) ?_
        refine lv_aload_n hx hb dX11_listen_70 rfl (lv_at hl 0 rfl) ?_
        refine bk_getr C hH fl_RX11_33 hs_5 rfl hr_7 dX11_listen_71 ?_
        obtain ⟨b_17, hr_18, hq⟩ := bk_bd_some hq
        refine bk_getr C hH fl_RX11_115 hs_10 rfl hr_18 dX11_listen_74 ?_
        refine lv_iconst (v := 3) hx hb dX11_listen_77 (by decide) ?_
        obtain ⟨ha_19, hq⟩ := bk_ck_some hq
        obtain ⟨hi_20, hq⟩ := bk_ck_some hq
        refine bk_iald C hH (bk_arr ha_19) (bk_in_vp hi_20) dX11_listen_78 ?_
        refine lv_iload_n hx hb dX11_listen_79 rfl (lv_at hl 2 rfl) ?_
        obtain ⟨V_22, hr_21, hq⟩ := bk_bd_some hq
        refine bk_callS (rest := []) (As := [.ref a3, .int x4, .int (bk_rI V b_17 (3 : Int32).toNatClampNeg), .int x2]) (ro := none) (Y1 := Y) (V1 := V_22) C hH hl.1 (c_X0_lessenInch hr_21) mc_X0_lessenInch st_X0_lessenInch lk_RX11_238 rfl ⟨rfl, rfl⟩ ⟨by decide, by decide⟩ rfl (Nat.le_of_ble_eq_true rfl) dX11_listen_80 ⟨by decide, by decide⟩ (fun H locs hH => ?_)
        exact w_X11_listen_83 C _ ih _ _ _ _ _ _ _ _ _ _ _ (lv_sub hl [0, 1, 2, 3, 4] rfl) hH hq

set_option maxRecDepth 100000 in
set_option maxHeartbeats 4000000 in
theorem w_X11_listen (C : bk_C G p s m args meth c cX11_listen RX11 5 (some FieldType.int)) : ∀ (Y : bk_Lay) (V : bk_Val) (a0 : Nat) (x1 : Int32) (x2 : Int32) (H : Heap) (locs : List Loc) (ls : Array Slot) (out : Int32 × bk_Lay × bk_Val), lv_has ls 5 [(0, .ref a0), (1, .int x1), (2, .int x2)] → bk_H G Y V s.heap H locs → q_X11_listen N Y V a0 x1 x2 = some out → W p l e rm_X11_listen s m args below meth c H locs 0 0 (MQ below (bk_Q G (some (.int out.1)) out.2.1 out.2.2) args s 2 341 (bk_A G)) (F0 m 0 ls []) := by
  have hx := C.1
  have hb := C.2.1
  intro Y V a0 x1 x2 H locs ls out hl hH hq
  unfold q_X11_listen at hq
  refine lv_iload_n hx hb dX11_listen_0 rfl (lv_at hl 1 rfl) ?_
  refine lv_iconst (v := 0) hx hb dX11_listen_1 (by decide) ?_
  refine lv_iconst (v := 3) hx hb dX11_listen_2 (by decide) ?_
  obtain ⟨r_26, hr_25, hq⟩ := bk_bd_some hq
  refine bk_callS (rest := []) (As := [.int x1, .int 0, .int 3]) (ro := (some (.int r_26))) (Y1 := Y) (V1 := V) C hH hl.1 (c_X11_isWithin hr_25) mc_X11_isWithin st_X11_isWithin lk_RX11_78 rfl ⟨rfl, rfl⟩ ⟨by decide, by decide⟩ rfl (Nat.le_of_ble_eq_true rfl) dX11_listen_3 ⟨by decide, by decide⟩ (fun H locs hH => ?_)
  refine lv_if_eq (tgt := 20) hx hb dX11_listen_6 (by decide) (fun hc_45 => ?_) (fun hc_45 => ?_)
  · rw [if_pos hc_45] at hq
    exact w_X11_listen_20 C _ _ _ _ _ _ _ (lv_sub hl [0] rfl) hH hq
  · rw [if_neg hc_45] at hq
    refine lv_iload_n hx hb dX11_listen_9 rfl (lv_at hl 2 rfl) ?_
    refine lv_iconst (v := 1) hx hb dX11_listen_10 (by decide) ?_
    refine lv_sipush (v := 600) hx hb dX11_listen_11 (by decide) ?_
    obtain ⟨r_28, hr_27, hq⟩ := bk_bd_some hq
    refine bk_callS (rest := []) (As := [.int x2, .int 1, .int 600]) (ro := (some (.int r_28))) (Y1 := Y) (V1 := V) C hH hl.1 (c_X11_isWithin hr_27) mc_X11_isWithin st_X11_isWithin lk_RX11_78 rfl ⟨rfl, rfl⟩ ⟨by decide, by decide⟩ rfl (Nat.le_of_ble_eq_true rfl) dX11_listen_14 ⟨by decide, by decide⟩ (fun H locs hH => ?_)
    refine lv_if_ne (tgt := 25) hx hb dX11_listen_17 (by decide) (fun hc_44 => ?_) (fun hc_44 => ?_)
    · rw [if_neg hc_44] at hq
      refine lv_aload_n hx hb dX11_listen_25 rfl (lv_at hl 0 rfl) ?_
      obtain ⟨hs_29, hq⟩ := bk_ck_some hq
      obtain ⟨b_30, hr_31, hq⟩ := bk_bd_some hq
      refine bk_getr C hH fl_RX11_63 hs_29 rfl hr_31 dX11_listen_26 ?_
      obtain ⟨hs_32, hq⟩ := bk_ck_some hq
      obtain ⟨b_33, hr_34, hq⟩ := bk_bd_some hq
      refine bk_getr C hH fl_RX11_193 hs_32 rfl hr_34 dX11_listen_29 ?_
      obtain ⟨ha_35, hq⟩ := bk_ck_some hq
      obtain ⟨hy_36, hq⟩ := bk_ck_some hq
      refine bk_clone (rest := []) (K := 336) C hH hl.1 kn_RX11_223 kn_same kn_nat kn_in kn_sel (by decide +kernel) (bk_arr ha_35) hy_36 (by decide) (by decide) (by decide) (by decide) dX11_listen_32 (fun Y_38 V_39 H e_40 e_41 hH => ?_)
      have hq := bk_let_eq e_40 hq
      have hq := bk_let_eq e_41 hq
      obtain ⟨b_37, e_42⟩ : ∃ z, z = bk_sz Y := ⟨_, rfl⟩
      have hq := bk_let_eq e_42 hq
      rw [← e_42]
      refine W.widen (k := 1) (n := 336) (by decide) (by decide) ?_
      obtain ⟨ha_43, hq⟩ := bk_ck_some hq
      refine bk_castJ C hH cc_RX11_224 (bk_arr ha_43) dX11_listen_35 ?_
      refine lv_astore_n (lv' := [(3, .ref b_37), (0, .ref a0), (1, .int x1), (2, .int x2)]) hx hb dX11_listen_38 rfl hl (by decide) rfl (fun ls hl => ?_)
      refine lv_iconst (v := 0) hx hb dX11_listen_39 (by decide) ?_
      refine lv_istore (lv' := [(4, .int 0), (3, .ref b_37), (0, .ref a0), (1, .int x1), (2, .int x2)]) hx hb dX11_listen_40 hl (by decide) rfl (fun ls hl => ?_)
      exact w_X11_listen_42 C _ _ _ _ _ _ _ _ _ _ _ _ (lv_sub hl [2, 3, 4, 1, 0] rfl) hH hq
    · rw [if_pos hc_44] at hq
      exact w_X11_listen_20 C _ _ _ _ _ _ _ (lv_sub hl [0] rfl) hH hq
set_option maxRecDepth 100000 in
theorem c_X11_listen {l : Launch} {G : bk_G} {N : Nat} {Y : bk_Lay} {V : bk_Val} {a0 : Nat} {x1 : Int32} {x2 : Int32} {out : Int32 × bk_Lay × bk_Val} (hq : q_X11_listen N Y V a0 x1 x2 = some out) : Met l yX11_listen (bk_ws yX11_listen cX11_listen 5 (some FieldType.int)) rm_X11_listen (bk_Pc G [.ref a0, .int x1, .int x2] Y V) (bk_Q G (some (.int out.1)) out.2.1 out.2.2) 2 341 (bk_A G) :=
  bk_met (by decide) (Nat.le_of_ble_eq_true rfl) (fun p e s m args below meth c ls C hnm hH hl => w_X11_listen C _ _ _ _ _ _ _ _ _ hl hH hq)

def rm_X11_quarter : Room := bk_rm 3 0 0 66
set_option maxRecDepth 100000 in
set_option maxHeartbeats 4000000 in
theorem w_X11_quarter_38 (C : bk_C G p s m args meth c cX11_quarter RX11 7 (some FieldType.int)) (k11 : bk_Val → Nat → Int32 → Int64 → Int32 → Option (Int32)) (i11 : ∀ (V : bk_Val) (a0 : Nat) (x1 : Int32) (w2 : Int64) (x4 : Int32) (H : Heap) (locs : List Loc) (ls : Array Slot) (out : Int32), lv_has ls 7 [(0, .ref a0), (1, .int x1), (2, .long w2), (4, .int x4)] → bk_H G Y V s.heap H locs → k11 V a0 x1 w2 x4 = some out → W p l e rm_X11_quarter s m args below meth c H locs 0 0 (MQ below (bk_Q G (some (.int out)) Y V) args s 0 0 (bk_A G)) (F0 m 11 ls [])) : ∀ (V : bk_Val) (a0 : Nat) (x1 : Int32) (w2 : Int64) (x4 : Int32) (H : Heap) (locs : List Loc) (ls : Array Slot) (out : Int32), lv_has ls 7 [(0, .ref a0), (1, .int x1), (2, .long w2), (4, .int x4)] → bk_H G Y V s.heap H locs → q_X11_quarter_38 N Y k11 V a0 x1 w2 x4 = some out → W p l e rm_X11_quarter s m args below meth c H locs 0 0 (MQ below (bk_Q G (some (.int out)) Y V) args s 0 0 (bk_A G)) (F0 m 38 ls []) := by
  have hx := C.1
  have hb := C.2.1
  intro V a0 x1 w2 x4 H locs ls out hl hH hq
  unfold q_X11_quarter_38 at hq
  refine lv_iinc (v := (x4 + 1)) (lv' := [(4, .int (x4 + 1)), (0, .ref a0), (1, .int x1), (2, .long w2)]) hx hb dX11_quarter_38 hl (k := 3) rfl rfl (by decide) rfl (fun ls hl => ?_)
  refine lv_goto (tgt := 11) hx hb dX11_quarter_41 (by decide) ?_
  exact i11 _ _ _ _ _ _ _ _ _ (lv_sub hl [1, 2, 3, 0] rfl) hH hq

set_option maxRecDepth 100000 in
set_option maxHeartbeats 4000000 in
theorem w_X11_quarter_11 (C : bk_C G p s m args meth c cX11_quarter RX11 7 (some FieldType.int)) : ∀ (n : Nat), ∀ (V : bk_Val) (a0 : Nat) (x1 : Int32) (w2 : Int64) (x4 : Int32) (H : Heap) (locs : List Loc) (ls : Array Slot) (out : Int32), lv_has ls 7 [(0, .ref a0), (1, .int x1), (2, .long w2), (4, .int x4)] → bk_H G Y V s.heap H locs → q_X11_quarter_11 N Y n V a0 x1 w2 x4 = some out → W p l e rm_X11_quarter s m args below meth c H locs 0 0 (MQ below (bk_Q G (some (.int out)) Y V) args s 0 0 (bk_A G)) (F0 m 11 ls []) := by
  have hx := C.1
  have hb := C.2.1
  intro n
  induction n with
  | zero =>
    intro V a0 x1 w2 x4 H locs ls out hl hH hq
    exact nomatch (show (none : Option (Int32)) = some out from hq)
  | succ n ih =>
    intro V a0 x1 w2 x4 H locs ls out hl hH hq
    unfold q_X11_quarter_11 at hq
    refine lv_iload hx hb dX11_quarter_11 (lv_at hl 3 rfl) ?_
    refine lv_iconst (v := 4) hx hb dX11_quarter_13 (by decide) ?_
    refine lv_icmp_ge (tgt := 44) hx hb dX11_quarter_14 (by decide) (fun hc_5 => ?_) (fun hc_5 => ?_)
    · rw [if_pos hc_5] at hq
      refine lv_iload_n hx hb dX11_quarter_44 rfl (lv_at hl 1 rfl) ?_
      cases hq
      exact bk_iret C hH dX11_quarter_45
    · rw [if_neg hc_5] at hq
      refine lv_aload_n hx hb dX11_quarter_17 rfl (lv_at hl 0 rfl) ?_
      refine lv_iload hx hb dX11_quarter_18 (lv_at hl 3 rfl) ?_
      obtain ⟨hs_3, hq⟩ := bk_ck_some hq
      obtain ⟨r_2, hr_1, hq⟩ := bk_bd_some hq
      refine bk_callV (rest := []) (As := [.int x4]) (ro := (some (.long r_2))) (Y1 := Y) (V1 := V) C hH hl.1 (c_X11_weightOfQuarter hr_1) mc_X11_weightOfQuarter mv_X11_weightOfQuarter lk_RX11_279 hs_3 rfl rfl ⟨rfl, rfl⟩ ⟨by decide, by decide⟩ rfl (Nat.le_of_ble_eq_true rfl) dX11_quarter_20 ⟨by decide, by decide⟩ (fun H locs hH => ?_)
      refine lv_lstore (lv' := [(5, .long r_2), (0, .ref a0), (1, .int x1), (2, .long w2), (4, .int x4)]) hx hb dX11_quarter_23 hl (by decide) rfl (fun ls hl => ?_)
      refine lv_lload hx hb dX11_quarter_25 (lv_at hl 0 rfl) ?_
      refine lv_lload_n hx hb dX11_quarter_27 rfl (lv_at hl 3 rfl) ?_
      refine W.lcmp hx hb dX11_quarter_28 ?_
      refine lv_if_le (tgt := 38) hx hb dX11_quarter_29 (by decide) (fun hc_4 => ?_) (fun hc_4 => ?_)
      · rw [if_pos hc_4] at hq
        exact w_X11_quarter_38 C _ ih _ _ _ _ _ _ _ _ _ (lv_sub hl [1, 2, 3, 4] rfl) hH hq
      · rw [if_neg hc_4] at hq
        refine lv_lload hx hb dX11_quarter_32 (lv_at hl 0 rfl) ?_
        refine lv_lstore_n (lv' := [(2, .long r_2), (5, .long r_2), (0, .ref a0), (1, .int x1), (4, .int x4)]) hx hb dX11_quarter_34 rfl hl (by decide) rfl (fun ls hl => ?_)
        refine lv_iload hx hb dX11_quarter_35 (lv_at hl 4 rfl) ?_
        refine lv_istore_n (lv' := [(1, .int x4), (2, .long r_2), (5, .long r_2), (0, .ref a0), (4, .int x4)]) hx hb dX11_quarter_37 rfl hl (by decide) rfl (fun ls hl => ?_)
        exact w_X11_quarter_38 C _ ih _ _ _ _ _ _ _ _ _ (lv_sub hl [3, 0, 1, 4] rfl) hH hq

set_option maxRecDepth 100000 in
set_option maxHeartbeats 4000000 in
theorem w_X11_quarter (C : bk_C G p s m args meth c cX11_quarter RX11 7 (some FieldType.int)) : ∀ (V : bk_Val) (a0 : Nat) (H : Heap) (locs : List Loc) (ls : Array Slot) (out : Int32), lv_has ls 7 [(0, .ref a0)] → bk_H G Y V s.heap H locs → q_X11_quarter N Y V a0 = some out → W p l e rm_X11_quarter s m args below meth c H locs 0 0 (MQ below (bk_Q G (some (.int out)) Y V) args s 0 0 (bk_A G)) (F0 m 0 ls []) := by
  have hx := C.1
  have hb := C.2.1
  intro V a0 H locs ls out hl hH hq
  unfold q_X11_quarter at hq
  refine lv_iconst (v := 0) hx hb dX11_quarter_0 (by decide) ?_
  refine lv_istore_n (lv' := [(1, .int 0), (0, .ref a0)]) hx hb dX11_quarter_1 rfl hl (by decide) rfl (fun ls hl => ?_)
  refine lv_aload_n hx hb dX11_quarter_2 rfl (lv_at hl 1 rfl) ?_
  refine lv_iconst (v := 0) hx hb dX11_quarter_3 (by decide) ?_
  obtain ⟨hs_8, hq⟩ := bk_ck_some hq
  obtain ⟨r_7, hr_6, hq⟩ := bk_bd_some hq
  refine bk_callV (rest := []) (As := [.int 0]) (ro := (some (.long r_7))) (Y1 := Y) (V1 := V) C hH hl.1 (c_X11_weightOfQuarter hr_6) mc_X11_weightOfQuarter mv_X11_weightOfQuarter lk_RX11_279 hs_8 rfl rfl ⟨rfl, rfl⟩ ⟨by decide, by decide⟩ rfl (Nat.le_of_ble_eq_true rfl) dX11_quarter_4 ⟨by decide, by decide⟩ (fun H locs hH => ?_)
  refine lv_lstore_n (lv' := [(2, .long r_7), (1, .int 0), (0, .ref a0)]) hx hb dX11_quarter_7 rfl hl (by decide) rfl (fun ls hl => ?_)
  refine lv_iconst (v := 1) hx hb dX11_quarter_8 (by decide) ?_
  refine lv_istore (lv' := [(4, .int 1), (2, .long r_7), (1, .int 0), (0, .ref a0)]) hx hb dX11_quarter_9 hl (by decide) rfl (fun ls hl => ?_)
  exact w_X11_quarter_11 C _ _ _ _ _ _ _ _ _ _ (lv_sub hl [3, 2, 1, 0] rfl) hH hq
set_option maxRecDepth 100000 in
theorem c_X11_quarter {l : Launch} {G : bk_G} {N : Nat} {Y : bk_Lay} {V : bk_Val} {a0 : Nat} {out : Int32} (hq : q_X11_quarter N Y V a0 = some out) : Met l yX11_quarter (bk_ws yX11_quarter cX11_quarter 7 (some FieldType.int)) rm_X11_quarter (bk_Pc G [.ref a0] Y V) (bk_Q G (some (.int out)) Y V) 0 0 (bk_A G) :=
  bk_met (by decide) (Nat.le_of_ble_eq_true rfl) (fun p e s m args below meth c ls C hnm hH hl => w_X11_quarter C _ _ _ _ _ _ hl hH hq)

def rm_X11_init : Room := bk_rm 4 57 5946 88
set_option maxRecDepth 100000 in
set_option maxHeartbeats 4000000 in
theorem w_X11_init (C : bk_C G p s m args meth c cX11_init RX11 1 (none : Option FieldType)) (hnm : meth.name = "<init>") : ∀ (Y : bk_Lay) (V : bk_Val) (a0 : Nat) (H : Heap) (locs : List Loc) (ls : Array Slot) (out : bk_Lay × bk_Val), lv_has ls 1 [(0, .ref a0)] → bk_H G Y V s.heap H locs → q_X11_init N Y V a0 = some out → W p l e rm_X11_init s m args below meth c H locs 0 0 (MQ below (bk_Q G none out.1 out.2) args s 57 5946 (bk_A G)) (F0 m 0 ls []) := by
  have hx := C.1
  have hb := C.2.1
  intro Y V a0 H locs ls out hl hH hq
  unfold q_X11_init at hq
  refine lv_aload_n hx hb dX11_init_0 rfl (lv_at hl 0 rfl) ?_
  refine bk_obin C hl.1 oi_RX11 oj ok_obj dX11_init_1 (by decide) (by decide) ?_
  refine lv_aload_n hx hb dX11_init_4 rfl (lv_at hl 0 rfl) ?_
  refine bk_new C hH ok_6 cl_RX11_7 ib_RX7 in_RX7 (by decide) (by decide) dX11_init_5 (fun Y_2 V_3 H e_4 e_5 hH => ?_)
  have hq := bk_let_eq e_4 hq
  have hq := bk_let_eq e_5 hq
  obtain ⟨b_1, e_6⟩ : ∃ z, z = bk_sz Y := ⟨_, rfl⟩
  have hq := bk_let_eq e_6 hq
  rw [← e_6]
  refine W.widen (k := 1) (n := 2) (by decide) (by decide) ?_
  refine lv_dup hx hb dX11_init_8 rfl ?_
  obtain ⟨Y_8, V_9, hr_7, hq⟩ := bk_bd2_some hq
  refine bk_callI (b := b_1) (rest := [.ref b_1, .ref a0]) (As := []) (Y1 := Y_8) (V1 := V_9) C hH hl.1 (c_X7_init hr_7) mc_X7_init im_X7_init rfl lk_RX11_9 rfl ⟨rfl, rfl⟩ ⟨by decide, by decide⟩ rfl (Nat.le_of_ble_eq_true rfl) dX11_init_9 ⟨by decide, by decide⟩ (fun H locs hH => ?_)
  refine W.widen (k := 2) (n := 702) (by decide) (by decide) ?_
  obtain ⟨hs_10, hq⟩ := bk_ck_some hq
  refine bk_putr C hH fp_RX11_10 (fun _ => hnm) hs_10 rfl rfl rfl dX11_init_12 (fun Y_11 H locs e_12 hH => ?_)
  have hq := bk_let_eq e_12 hq
  refine lv_aload_n hx hb dX11_init_15 rfl (lv_at hl 0 rfl) ?_
  refine bk_new C hH ok_2 cl_RX11_16 ib_RX3 in_RX3 (by decide) (by decide) dX11_init_16 (fun Y_14 V_15 H e_16 e_17 hH => ?_)
  have hq := bk_let_eq e_16 hq
  have hq := bk_let_eq e_17 hq
  obtain ⟨b_13, e_18⟩ : ∃ z, z = bk_sz Y_11 := ⟨_, rfl⟩
  have hq := bk_let_eq e_18 hq
  rw [← e_18]
  refine W.widen (k := 3) (n := 709) (by decide) (by decide) ?_
  refine lv_dup hx hb dX11_init_19 rfl ?_
  obtain ⟨Y_20, V_21, hr_19, hq⟩ := bk_bd2_some hq
  refine bk_callI (b := b_13) (rest := [.ref b_13, .ref a0]) (As := []) (Y1 := Y_20) (V1 := V_21) C hH hl.1 (c_X3_init hr_19) mc_X3_init im_X3_init rfl lk_RX11_18 rfl ⟨rfl, rfl⟩ ⟨by decide, by decide⟩ rfl (Nat.le_of_ble_eq_true rfl) dX11_init_20 ⟨by decide, by decide⟩ (fun H locs hH => ?_)
  refine W.widen (k := 7) (n := 2330) (by decide) (by decide) ?_
  obtain ⟨hs_22, hq⟩ := bk_ck_some hq
  refine bk_putr C hH fp_RX11_19 (fun _ => hnm) hs_22 rfl rfl rfl dX11_init_23 (fun Y_23 H locs e_24 hH => ?_)
  have hq := bk_let_eq e_24 hq
  refine lv_aload_n hx hb dX11_init_26 rfl (lv_at hl 0 rfl) ?_
  refine lv_bipush (v := 84) hx hb dX11_init_27 (by decide) ?_
  refine bk_newa (K := 84) C hH (Or.inl ⟨rfl, rfl⟩) ac_2 (by decide) (by decide) (by decide) (by decide) (by decide) dX11_init_29 (fun Y_26 V_27 H e_28 e_29 hH => ?_)
  have hq := bk_let_eq e_28 hq
  have hq := bk_let_eq e_29 hq
  obtain ⟨b_25, e_30⟩ : ∃ z, z = bk_sz Y_23 := ⟨_, rfl⟩
  have hq := bk_let_eq e_30 hq
  rw [← e_30]
  refine W.widen (k := 8) (n := 2414) (by decide) (by decide) ?_
  obtain ⟨hs_31, hq⟩ := bk_ck_some hq
  refine bk_putr C hH fp_RX11_23 (fun _ => hnm) hs_31 rfl rfl rfl dX11_init_31 (fun Y_32 H locs e_33 hH => ?_)
  have hq := bk_let_eq e_33 hq
  refine lv_aload_n hx hb dX11_init_34 rfl (lv_at hl 0 rfl) ?_
  refine lv_bipush (v := 6) hx hb dX11_init_35 (by decide) ?_
  refine bk_newa (K := 6) C hH (Or.inl ⟨rfl, rfl⟩) ac_2 (by decide) (by decide) (by decide) (by decide) (by decide) dX11_init_37 (fun Y_35 V_36 H e_37 e_38 hH => ?_)
  have hq := bk_let_eq e_37 hq
  have hq := bk_let_eq e_38 hq
  obtain ⟨b_34, e_39⟩ : ∃ z, z = bk_sz Y_32 := ⟨_, rfl⟩
  have hq := bk_let_eq e_39 hq
  rw [← e_39]
  refine W.widen (k := 9) (n := 2420) (by decide) (by decide) ?_
  obtain ⟨hs_40, hq⟩ := bk_ck_some hq
  refine bk_putr C hH fp_RX11_27 (fun _ => hnm) hs_40 rfl rfl rfl dX11_init_39 (fun Y_41 H locs e_42 hH => ?_)
  have hq := bk_let_eq e_42 hq
  refine lv_aload_n hx hb dX11_init_42 rfl (lv_at hl 0 rfl) ?_
  refine bk_new C hH ok_4 cl_RX11_30 ib_RX5 in_RX5 (by decide) (by decide) dX11_init_43 (fun Y_44 V_45 H e_46 e_47 hH => ?_)
  have hq := bk_let_eq e_46 hq
  have hq := bk_let_eq e_47 hq
  obtain ⟨b_43, e_48⟩ : ∃ z, z = bk_sz Y_41 := ⟨_, rfl⟩
  have hq := bk_let_eq e_48 hq
  rw [← e_48]
  refine W.widen (k := 10) (n := 2428) (by decide) (by decide) ?_
  refine lv_dup hx hb dX11_init_46 rfl ?_
  obtain ⟨Y_50, V_51, hr_49, hq⟩ := bk_bd2_some hq
  refine bk_callI (b := b_43) (rest := [.ref b_43, .ref a0]) (As := []) (Y1 := Y_50) (V1 := V_51) C hH hl.1 (c_X5_init hr_49) mc_X5_init im_X5_init rfl lk_RX11_32 rfl ⟨rfl, rfl⟩ ⟨by decide, by decide⟩ rfl (Nat.le_of_ble_eq_true rfl) dX11_init_47 ⟨by decide, by decide⟩ (fun H locs hH => ?_)
  refine W.widen (k := 31) (n := 4007) (by decide) (by decide) ?_
  obtain ⟨hs_52, hq⟩ := bk_ck_some hq
  refine bk_putr C hH fp_RX11_33 (fun h => by cases h) hs_52 rfl rfl rfl dX11_init_50 (fun Y_53 H locs e_54 hH => ?_)
  have hq := bk_let_eq e_54 hq
  refine lv_aload_n hx hb dX11_init_53 rfl (lv_at hl 0 rfl) ?_
  refine bk_new C hH ok_4 cl_RX11_30 ib_RX5 in_RX5 (by decide) (by decide) dX11_init_54 (fun Y_56 V_57 H e_58 e_59 hH => ?_)
  have hq := bk_let_eq e_58 hq
  have hq := bk_let_eq e_59 hq
  obtain ⟨b_55, e_60⟩ : ∃ z, z = bk_sz Y_53 := ⟨_, rfl⟩
  have hq := bk_let_eq e_60 hq
  rw [← e_60]
  refine W.widen (k := 32) (n := 4015) (by decide) (by decide) ?_
  refine lv_dup hx hb dX11_init_57 rfl ?_
  obtain ⟨Y_62, V_63, hr_61, hq⟩ := bk_bd2_some hq
  refine bk_callI (b := b_55) (rest := [.ref b_55, .ref a0]) (As := []) (Y1 := Y_62) (V1 := V_63) C hH hl.1 (c_X5_init hr_61) mc_X5_init im_X5_init rfl lk_RX11_32 rfl ⟨rfl, rfl⟩ ⟨by decide, by decide⟩ rfl (Nat.le_of_ble_eq_true rfl) dX11_init_58 ⟨by decide, by decide⟩ (fun H locs hH => ?_)
  refine W.widen (k := 53) (n := 5594) (by decide) (by decide) ?_
  obtain ⟨hs_64, hq⟩ := bk_ck_some hq
  refine bk_putr C hH fp_RX11_37 (fun h => by cases h) hs_64 rfl rfl rfl dX11_init_61 (fun Y_65 H locs e_66 hH => ?_)
  have hq := bk_let_eq e_66 hq
  refine lv_aload_n hx hb dX11_init_64 rfl (lv_at hl 0 rfl) ?_
  refine lv_iconst (v := (-1)) hx hb dX11_init_65 (by decide) ?_
  refine bk_puti C hH fp_RX11_40 (fun h => by cases h) (by rw [e_66]; exact hs_64) rfl dX11_init_66 (fun V_67 H locs e_68 hH => ?_)
  have hq := bk_let_eq e_68 hq
  refine lv_aload_n hx hb dX11_init_69 rfl (lv_at hl 0 rfl) ?_
  refine bk_new C hH ok_7 cl_RX11_44 ib_RX8 in_RX8 (by decide) (by decide) dX11_init_70 (fun Y_70 V_71 H e_72 e_73 hH => ?_)
  have hq := bk_let_eq e_72 hq
  have hq := bk_let_eq e_73 hq
  obtain ⟨b_69, e_74⟩ : ∃ z, z = bk_sz Y_65 := ⟨_, rfl⟩
  have hq := bk_let_eq e_74 hq
  rw [← e_74]
  refine W.widen (k := 54) (n := 5600) (by decide) (by decide) ?_
  refine lv_dup hx hb dX11_init_73 rfl ?_
  refine lv_aload_n hx hb dX11_init_74 rfl (lv_at hl 0 rfl) ?_
  obtain ⟨hs_75, hq⟩ := bk_ck_some hq
  obtain ⟨b_76, hr_77, hq⟩ := bk_bd_some hq
  refine bk_getr C hH fl_RX11_10 hs_75 rfl hr_77 dX11_init_75 ?_
  obtain ⟨hs_78, hq⟩ := bk_ck_some hq
  obtain ⟨b_79, hr_80, hq⟩ := bk_bd_some hq
  refine bk_getr C hH fl_RX11_46 hs_78 rfl hr_80 dX11_init_78 ?_
  refine lv_aload_n hx hb dX11_init_81 rfl (lv_at hl 0 rfl) ?_
  obtain ⟨b_81, hr_82, hq⟩ := bk_bd_some hq
  refine bk_getr C hH fl_RX11_37 hs_75 rfl hr_82 dX11_init_82 ?_
  obtain ⟨Y_84, V_85, hr_83, hq⟩ := bk_bd2_some hq
  refine bk_callI (b := b_69) (rest := [.ref b_69, .ref a0]) (As := [.ref b_79, .ref b_81]) (Y1 := Y_84) (V1 := V_85) C hH hl.1 (c_X8_init hr_83) mc_X8_init im_X8_init rfl lk_RX11_50 rfl ⟨rfl, rfl⟩ ⟨by decide, by decide⟩ rfl (Nat.le_of_ble_eq_true rfl) dX11_init_85 ⟨by decide, by decide⟩ (fun H locs hH => ?_)
  refine W.widen (k := 55) (n := 5605) (by decide) (by decide) ?_
  obtain ⟨hs_86, hq⟩ := bk_ck_some hq
  refine bk_putr C hH fp_RX11_53 (fun _ => hnm) hs_86 rfl rfl rfl dX11_init_88 (fun Y_87 H locs e_88 hH => ?_)
  have hq := bk_let_eq e_88 hq
  refine lv_aload_n hx hb dX11_init_91 rfl (lv_at hl 0 rfl) ?_
  refine lv_aload_n hx hb dX11_init_92 rfl (lv_at hl 0 rfl) ?_
  obtain ⟨b_89, hr_90, hq⟩ := bk_bd_some hq
  refine bk_getr C hH fl_RX11_33 (by rw [e_88]; exact hs_86) rfl hr_90 dX11_init_93 ?_
  obtain ⟨b_92, Y_93, V_94, hr_91, hq⟩ := bk_bd3_some hq
  refine bk_callS (rest := [.ref a0]) (As := [.ref b_89]) (ro := (some (.ref b_92))) (Y1 := Y_93) (V1 := V_94) C hH hl.1 (c_X6_ofNew hr_91) mc_X6_ofNew st_X6_ofNew lk_RX11_57 rfl ⟨rfl, rfl⟩ ⟨by decide, by decide⟩ rfl (Nat.le_of_ble_eq_true rfl) dX11_init_96 ⟨by decide, by decide⟩ (fun H locs hH => ?_)
  refine W.widen (k := 57) (n := 5946) (by decide) (by decide) ?_
  obtain ⟨hs_95, hq⟩ := bk_ck_some hq
  refine bk_putr C hH fp_RX11_63 (fun h => by cases h) hs_95 rfl rfl rfl dX11_init_99 (fun Y_96 H locs e_97 hH => ?_)
  have hq := bk_let_eq e_97 hq
  cases hq
  exact bk_vret C hH dX11_init_102
set_option maxRecDepth 100000 in
theorem c_X11_init {l : Launch} {G : bk_G} {N : Nat} {Y : bk_Lay} {V : bk_Val} {a0 : Nat} {out : bk_Lay × bk_Val} (hq : q_X11_init N Y V a0 = some out) : Met l yX11_init (bk_ws yX11_init cX11_init 1 (none : Option FieldType)) rm_X11_init (bk_Pc G [.ref a0] Y V) (bk_Q G none out.1 out.2) 57 5946 (bk_A G) :=
  bk_met (by decide) (Nat.le_of_ble_eq_true rfl) (fun p e s m args below meth c ls C hnm hH hl => w_X11_init C hnm _ _ _ _ _ _ _ hl hH hq)

def rm_X11_ofInch : Room := bk_rm 9 1 6 220
set_option maxRecDepth 100000 in
set_option maxHeartbeats 4000000 in
theorem w_X11_ofInch (C : bk_C G p s m args meth c cX11_ofInch RX11 2 (some FieldType.int)) (hst : l.stackTraces = false) (hT9 : ∀ x ∈ c.exceptionTable.toList, False) : ∀ (V : bk_Val) (a0 : Nat) (x1 : Int32) (H : Heap) (locs : List Loc) (ls : Array Slot) (out : Nat ⊕ (Int32)), lv_has ls 2 [(0, .ref a0), (1, .int x1)] → bk_H G Y V s.heap H locs → q_X11_ofInch N Y V a0 x1 = some out → W p l e rm_X11_ofInch s m args below meth c H locs 0 0 (vx_MQ below (bk_QX (fun (o : Int32) => bk_Q G (some (.int o)) Y V) out) (bk_XC G Y V out) args s 1 6 (bk_A G)) (F0 m 0 ls []) := by
  have hx := C.1
  have hb := C.2.1
  intro V a0 x1 H locs ls out hl hH hq
  unfold q_X11_ofInch at hq
  refine lv_aload_n hx hb dX11_ofInch_0 rfl (lv_at hl 0 rfl) ?_
  refine lv_iload_n hx hb dX11_ofInch_1 rfl (lv_at hl 1 rfl) ?_
  obtain ⟨hs_3, hq⟩ := bk_ck_some hq
  obtain ⟨r_2, hr_1, hq⟩ := bk_bd_some hq
  refine bk_callV (rest := []) (As := [.int x1]) (ro := (some (.int r_2))) (Y1 := Y) (V1 := V) C hH hl.1 (c_X11_isInch hr_1) mc_X11_isInch mv_X11_isInch lk_RX11_220 hs_3 rfl rfl ⟨rfl, rfl⟩ ⟨by decide, by decide⟩ rfl (Nat.le_of_ble_eq_true rfl) dX11_ofInch_2 ⟨by decide, by decide⟩ (fun H locs hH => ?_)
  rcases bk_bdx_cases hq with ⟨x9_5, hr_4, ho_6⟩ | ⟨u5, hr_4, hq⟩
  · exact bk_callSt (rest := []) (As := [.int r_2]) (e9 := x9_5) C hT9 hH hl.1 (c_X11_needElement hst hr_4) ho_6 mc_X11_needElement st_X11_needElement ml_RX11_214 rfl ⟨rfl, rfl⟩ ⟨by decide, by decide⟩ rfl (Nat.le_of_ble_eq_true rfl) dX11_ofInch_5 ⟨by decide, by decide⟩ (by decide) (by decide)
  · refine bk_callSr (rest := []) (As := [.int r_2]) (o1 := u5) (ro := none) (Y1 := Y) (V1 := V) rfl C hH hl.1 (c_X11_needElement hst hr_4) mc_X11_needElement st_X11_needElement ml_RX11_214 rfl ⟨rfl, rfl⟩ ⟨by decide, by decide⟩ rfl (Nat.le_of_ble_eq_true rfl) dX11_ofInch_5 ⟨by decide, by decide⟩ (fun H locs hH => ?_)
    refine W.widen (k := 1) (n := 6) (by decide) (by decide) ?_
    refine lv_aload_n hx hb dX11_ofInch_8 rfl (lv_at hl 0 rfl) ?_
    obtain ⟨b_7, hr_8, hq⟩ := bk_bd_some hq
    refine bk_getr C hH fl_RX11_63 hs_3 rfl hr_8 dX11_ofInch_9 ?_
    obtain ⟨hs_9, hq⟩ := bk_ck_some hq
    obtain ⟨b_10, hr_11, hq⟩ := bk_bd_some hq
    refine bk_getr C hH fl_RX11_193 hs_9 rfl hr_11 dX11_ofInch_12 ?_
    refine lv_iload_n hx hb dX11_ofInch_15 rfl (lv_at hl 1 rfl) ?_
    obtain ⟨r_13, hr_12, hq⟩ := bk_bd_some hq
    refine bk_callS (rest := []) (As := [.ref b_10, .int x1]) (ro := (some (.long r_13))) (Y1 := Y) (V1 := V) C hH hl.1 (c_X0_totalOfInch hr_12) mc_X0_totalOfInch st_X0_totalOfInch lk_RX11_272 rfl ⟨rfl, rfl⟩ ⟨by decide, by decide⟩ rfl (Nat.le_of_ble_eq_true rfl) dX11_ofInch_16 ⟨by decide, by decide⟩ (fun H locs hH => ?_)
    refine lv_aload_n hx hb dX11_ofInch_19 rfl (lv_at hl 0 rfl) ?_
    refine bk_getr C hH fl_RX11_63 hs_3 rfl hr_8 dX11_ofInch_20 ?_
    refine bk_getr C hH fl_RX11_193 hs_9 rfl hr_11 dX11_ofInch_23 ?_
    obtain ⟨r_15, hr_14, hq⟩ := bk_bd_some hq
    refine bk_callS (rest := [.long r_13]) (As := [.ref b_10]) (ro := (some (.long r_15))) (Y1 := Y) (V1 := V) C hH hl.1 (c_X0_total hr_14) mc_X0_total st_X0_total lk_RX11_264 rfl ⟨rfl, rfl⟩ ⟨by decide, by decide⟩ rfl (Nat.le_of_ble_eq_true rfl) dX11_ofInch_26 ⟨by decide, by decide⟩ (fun H locs hH => ?_)
    obtain ⟨r_17, hr_16, hq⟩ := bk_bd_some hq
    refine bk_callS (rest := []) (As := [.long r_13, .long r_15]) (ro := (some (.int r_17))) (Y1 := Y) (V1 := V) C hH hl.1 (c_X11_ofThousand hr_16) mc_X11_ofThousand st_X11_ofThousand lk_RX11_268 rfl ⟨rfl, rfl⟩ ⟨by decide, by decide⟩ rfl (Nat.le_of_ble_eq_true rfl) dX11_ofInch_29 ⟨by decide, by decide⟩ (fun H locs hH => ?_)
    refine vx_ret ?_
    cases hq
    exact bk_iret C hH dX11_ofInch_32
set_option maxRecDepth 100000 in
theorem c_X11_ofInch {l : Launch} {G : bk_G} {N : Nat} {Y : bk_Lay} {V : bk_Val} (hst : l.stackTraces = false) {a0 : Nat} {x1 : Int32} {out : Nat ⊕ (Int32)} (hq : q_X11_ofInch N Y V a0 x1 = some out) : vx_Met l yX11_ofInch (bk_ws yX11_ofInch cX11_ofInch 2 (some FieldType.int)) rm_X11_ofInch (bk_Pc G [.ref a0, .int x1] Y V) (bk_QX (fun (o : Int32) => bk_Q G (some (.int o)) Y V) out) (bk_XC G Y V out) 1 6 (bk_A G) :=
  bk_metx (by decide) (Nat.le_of_ble_eq_true rfl) (fun p e s m args below meth c ls C hT9 hH hl => w_X11_ofInch C hst hT9 _ _ _ _ _ _ _ hl hH hq)

def rm_X11_air : Room := bk_rm 9 1 6 220
set_option maxRecDepth 100000 in
set_option maxHeartbeats 4000000 in
theorem w_X11_air_29 {XC : String → State → State → Prop} (C : bk_C G p s m args meth c cX11_air RX11 5 (some FieldType.int)) (hst : l.stackTraces = false) (hT9 : ∀ x ∈ c.exceptionTable.toList, False) : ∀ (n : Nat), ∀ (V : bk_Val) (a0 : Nat) (x1 : Int32) (w2 : Int64) (x4 : Int32) (H : Heap) (locs : List Loc) (ls : Array Slot) (out : Nat ⊕ (Int32)), lv_has ls 5 [(0, .ref a0), (1, .int x1), (2, .long w2), (4, .int x4)] → bk_H G Y V s.heap H locs → q_X11_air_29 N Y n V a0 x1 w2 x4 = some out → W p l e rm_X11_air s m args below meth c H locs 1 6 (vx_MQ below (bk_QX (fun (o : Int32) => bk_Q G (some (.int o)) Y V) out) XC args s 1 6 (bk_A G)) (F0 m 29 ls []) := by
  have hx := C.1
  have hb := C.2.1
  intro n
  induction n with
  | zero =>
    intro V a0 x1 w2 x4 H locs ls out hl hH hq
    exact nomatch (show (none : Option (Nat ⊕ (Int32))) = some out from hq)
  | succ n ih =>
    intro V a0 x1 w2 x4 H locs ls out hl hH hq
    unfold q_X11_air_29 at hq
    refine lv_iload hx hb dX11_air_29 (lv_at hl 3 rfl) ?_
    refine lv_iload_n hx hb dX11_air_31 rfl (lv_at hl 1 rfl) ?_
    refine lv_icmp_ge (tgt := 59) hx hb dX11_air_32 (by decide) (fun hc_14 => ?_) (fun hc_14 => ?_)
    · rw [if_pos hc_14] at hq
      refine lv_aload_n hx hb dX11_air_59 rfl (lv_at hl 0 rfl) ?_
      refine lv_lload_n hx hb dX11_air_60 rfl (lv_at hl 2 rfl) ?_
      obtain ⟨hs_3, hq⟩ := bk_ck_some hq
      obtain ⟨r_2, hr_1, hq⟩ := bk_bd_some hq
      refine bk_callV (rest := []) (As := [.long w2]) (ro := (some (.int r_2))) (Y1 := Y) (V1 := V) C hH hl.1 (c_X11_holeAmong hr_1) mc_X11_holeAmong mv_X11_holeAmong lk_RX11_343 hs_3 rfl rfl ⟨rfl, rfl⟩ ⟨by decide, by decide⟩ rfl (Nat.le_of_ble_eq_true rfl) dX11_air_61 ⟨by decide, by decide⟩ (fun H locs hH => ?_)
      refine vx_ret ?_
      cases hq
      exact bk_iret C hH dX11_air_64
    · rw [if_neg hc_14] at hq
      refine lv_lload_n hx hb dX11_air_35 rfl (lv_at hl 2 rfl) ?_
      refine lv_aload_n hx hb dX11_air_36 rfl (lv_at hl 0 rfl) ?_
      obtain ⟨hs_4, hq⟩ := bk_ck_some hq
      obtain ⟨b_5, hr_6, hq⟩ := bk_bd_some hq
      refine bk_getr C hH fl_RX11_33 hs_4 rfl hr_6 dX11_air_37 ?_
      obtain ⟨hs_7, hq⟩ := bk_ck_some hq
      obtain ⟨b_8, hr_9, hq⟩ := bk_bd_some hq
      refine bk_getr C hH fl_RX11_115 hs_7 rfl hr_9 dX11_air_40 ?_
      refine lv_bipush (v := 7) hx hb dX11_air_43 (by decide) ?_
      obtain ⟨ha_10, hq⟩ := bk_ck_some hq
      obtain ⟨hi_11, hq⟩ := bk_ck_some hq
      refine bk_iald C hH (bk_arr ha_10) (bk_in_vp hi_11) dX11_air_45 ?_
      refine bk_i2l hx hb dX11_air_46 ?_
      refine lv_lmul hx hb dX11_air_47 ?_
      refine bk_ldc2 C kl_RX11_341 dX11_air_48 ?_
      refine lv_ldiv hx hb dX11_air_51 (by decide) ?_
      refine lv_topl (fun w2_12 e_13 => ?_)
      have hq := bk_let_eq e_13 hq
      refine lv_lstore_n (lv' := [(2, .long w2_12), (0, .ref a0), (1, .int x1), (4, .int x4)]) hx hb dX11_air_52 rfl hl (by decide) rfl (fun ls hl => ?_)
      refine lv_iinc (v := (x4 + 1)) (lv' := [(4, .int (x4 + 1)), (2, .long w2_12), (0, .ref a0), (1, .int x1)]) hx hb dX11_air_53 hl (k := 3) rfl rfl (by decide) rfl (fun ls hl => ?_)
      refine lv_goto (tgt := 29) hx hb dX11_air_56 (by decide) ?_
      exact ih _ _ _ _ _ _ _ _ _ (lv_sub hl [2, 3, 1, 0] rfl) hH hq

set_option maxRecDepth 100000 in
set_option maxHeartbeats 4000000 in
theorem w_X11_air (C : bk_C G p s m args meth c cX11_air RX11 5 (some FieldType.int)) (hst : l.stackTraces = false) (hT9 : ∀ x ∈ c.exceptionTable.toList, False) : ∀ (V : bk_Val) (a0 : Nat) (x1 : Int32) (H : Heap) (locs : List Loc) (ls : Array Slot) (out : Nat ⊕ (Int32)), lv_has ls 5 [(0, .ref a0), (1, .int x1)] → bk_H G Y V s.heap H locs → q_X11_air N Y V a0 x1 = some out → W p l e rm_X11_air s m args below meth c H locs 0 0 (vx_MQ below (bk_QX (fun (o : Int32) => bk_Q G (some (.int o)) Y V) out) (bk_XC G Y V out) args s 1 6 (bk_A G)) (F0 m 0 ls []) := by
  have hx := C.1
  have hb := C.2.1
  intro V a0 x1 H locs ls out hl hH hq
  unfold q_X11_air at hq
  refine lv_iload_n hx hb dX11_air_0 rfl (lv_at hl 1 rfl) ?_
  refine lv_iconst (v := 0) hx hb dX11_air_1 (by decide) ?_
  refine lv_bipush (v := 60) hx hb dX11_air_2 (by decide) ?_
  obtain ⟨r_16, hr_15, hq⟩ := bk_bd_some hq
  refine bk_callS (rest := []) (As := [.int x1, .int 0, .int 60]) (ro := (some (.int r_16))) (Y1 := Y) (V1 := V) C hH hl.1 (c_X11_isWithin hr_15) mc_X11_isWithin st_X11_isWithin lk_RX11_78 rfl ⟨rfl, rfl⟩ ⟨by decide, by decide⟩ rfl (Nat.le_of_ble_eq_true rfl) dX11_air_4 ⟨by decide, by decide⟩ (fun H locs hH => ?_)
  rcases bk_bdx_cases hq with ⟨x9_18, hr_17, ho_19⟩ | ⟨u7, hr_17, hq⟩
  · exact bk_callSt (rest := []) (As := [.int r_16]) (e9 := x9_18) C hT9 hH hl.1 (c_X11_needArgument hst hr_17) ho_19 mc_X11_needArgument st_X11_needArgument ml_RX11_82 rfl ⟨rfl, rfl⟩ ⟨by decide, by decide⟩ rfl (Nat.le_of_ble_eq_true rfl) dX11_air_7 ⟨by decide, by decide⟩ (by decide) (by decide)
  · refine bk_callSr (rest := []) (As := [.int r_16]) (o1 := u7) (ro := none) (Y1 := Y) (V1 := V) rfl C hH hl.1 (c_X11_needArgument hst hr_17) mc_X11_needArgument st_X11_needArgument ml_RX11_82 rfl ⟨rfl, rfl⟩ ⟨by decide, by decide⟩ rfl (Nat.le_of_ble_eq_true rfl) dX11_air_7 ⟨by decide, by decide⟩ (fun H locs hH => ?_)
    refine W.widen (k := 1) (n := 6) (by decide) (by decide) ?_
    refine lv_aload_n hx hb dX11_air_10 rfl (lv_at hl 0 rfl) ?_
    obtain ⟨hs_20, hq⟩ := bk_ck_some hq
    obtain ⟨b_21, hr_22, hq⟩ := bk_bd_some hq
    refine bk_getr C hH fl_RX11_33 hs_20 rfl hr_22 dX11_air_11 ?_
    obtain ⟨hs_23, hq⟩ := bk_ck_some hq
    obtain ⟨b_24, hr_25, hq⟩ := bk_bd_some hq
    refine bk_getr C hH fl_RX11_115 hs_23 rfl hr_25 dX11_air_14 ?_
    refine lv_bipush (v := 6) hx hb dX11_air_17 (by decide) ?_
    obtain ⟨ha_26, hq⟩ := bk_ck_some hq
    obtain ⟨hi_27, hq⟩ := bk_ck_some hq
    refine bk_iald C hH (bk_arr ha_26) (bk_in_vp hi_27) dX11_air_19 ?_
    refine bk_i2l hx hb dX11_air_20 ?_
    refine bk_ldc2 C kl_RX11_339 dX11_air_21 ?_
    refine lv_lmul hx hb dX11_air_24 ?_
    refine lv_topl (fun w2_28 e_29 => ?_)
    have hq := bk_let_eq e_29 hq
    refine lv_lstore_n (lv' := [(2, .long w2_28), (0, .ref a0), (1, .int x1)]) hx hb dX11_air_25 rfl hl (by decide) rfl (fun ls hl => ?_)
    refine lv_iconst (v := 0) hx hb dX11_air_26 (by decide) ?_
    refine lv_istore (lv' := [(4, .int 0), (2, .long w2_28), (0, .ref a0), (1, .int x1)]) hx hb dX11_air_27 hl (by decide) rfl (fun ls hl => ?_)
    exact w_X11_air_29 C hst hT9 _ _ _ _ _ _ _ _ _ _ (lv_sub hl [2, 3, 1, 0] rfl) hH hq
set_option maxRecDepth 100000 in
theorem c_X11_air {l : Launch} {G : bk_G} {N : Nat} {Y : bk_Lay} {V : bk_Val} (hst : l.stackTraces = false) {a0 : Nat} {x1 : Int32} {out : Nat ⊕ (Int32)} (hq : q_X11_air N Y V a0 x1 = some out) : vx_Met l yX11_air (bk_ws yX11_air cX11_air 5 (some FieldType.int)) rm_X11_air (bk_Pc G [.ref a0, .int x1] Y V) (bk_QX (fun (o : Int32) => bk_Q G (some (.int o)) Y V) out) (bk_XC G Y V out) 1 6 (bk_A G) :=
  bk_metx (by decide) (Nat.le_of_ble_eq_true rfl) (fun p e s m args below meth c ls C hT9 hH hl => w_X11_air C hst hT9 _ _ _ _ _ _ _ hl hH hq)

def rm_X11_cell : Room := bk_rm 9 1 6 220
set_option maxRecDepth 100000 in
set_option maxHeartbeats 4000000 in
theorem w_X11_cell (C : bk_C G p s m args meth c cX11_cell RX11 2 (some FieldType.int)) (hst : l.stackTraces = false) (hT9 : ∀ x ∈ c.exceptionTable.toList, False) : ∀ (V : bk_Val) (a0 : Nat) (x1 : Int32) (H : Heap) (locs : List Loc) (ls : Array Slot) (out : Nat ⊕ (Int32)), lv_has ls 2 [(0, .ref a0), (1, .int x1)] → bk_H G Y V s.heap H locs → q_X11_cell N Y V a0 x1 = some out → W p l e rm_X11_cell s m args below meth c H locs 0 0 (vx_MQ below (bk_QX (fun (o : Int32) => bk_Q G (some (.int o)) Y V) out) (bk_XC G Y V out) args s 1 6 (bk_A G)) (F0 m 0 ls []) := by
  have hx := C.1
  have hb := C.2.1
  intro V a0 x1 H locs ls out hl hH hq
  unfold q_X11_cell at hq
  refine lv_iload_n hx hb dX11_cell_0 rfl (lv_at hl 1 rfl) ?_
  refine lv_iconst (v := 0) hx hb dX11_cell_1 (by decide) ?_
  refine lv_bipush (v := 39) hx hb dX11_cell_2 (by decide) ?_
  obtain ⟨r_2, hr_1, hq⟩ := bk_bd_some hq
  refine bk_callS (rest := []) (As := [.int x1, .int 0, .int 39]) (ro := (some (.int r_2))) (Y1 := Y) (V1 := V) C hH hl.1 (c_X11_isWithin hr_1) mc_X11_isWithin st_X11_isWithin lk_RX11_78 rfl ⟨rfl, rfl⟩ ⟨by decide, by decide⟩ rfl (Nat.le_of_ble_eq_true rfl) dX11_cell_4 ⟨by decide, by decide⟩ (fun H locs hH => ?_)
  rcases bk_bdx_cases hq with ⟨x9_4, hr_3, ho_5⟩ | ⟨u7, hr_3, hq⟩
  · exact bk_callSt (rest := []) (As := [.int r_2]) (e9 := x9_4) C hT9 hH hl.1 (c_X11_needElement hst hr_3) ho_5 mc_X11_needElement st_X11_needElement ml_RX11_214 rfl ⟨rfl, rfl⟩ ⟨by decide, by decide⟩ rfl (Nat.le_of_ble_eq_true rfl) dX11_cell_7 ⟨by decide, by decide⟩ (by decide) (by decide)
  · refine bk_callSr (rest := []) (As := [.int r_2]) (o1 := u7) (ro := none) (Y1 := Y) (V1 := V) rfl C hH hl.1 (c_X11_needElement hst hr_3) mc_X11_needElement st_X11_needElement ml_RX11_214 rfl ⟨rfl, rfl⟩ ⟨by decide, by decide⟩ rfl (Nat.le_of_ble_eq_true rfl) dX11_cell_7 ⟨by decide, by decide⟩ (fun H locs hH => ?_)
    refine W.widen (k := 1) (n := 6) (by decide) (by decide) ?_
    refine lv_aload_n hx hb dX11_cell_10 rfl (lv_at hl 0 rfl) ?_
    obtain ⟨hs_6, hq⟩ := bk_ck_some hq
    obtain ⟨b_7, hr_8, hq⟩ := bk_bd_some hq
    refine bk_getr C hH fl_RX11_33 hs_6 rfl hr_8 dX11_cell_11 ?_
    obtain ⟨hs_9, hq⟩ := bk_ck_some hq
    obtain ⟨b_10, hr_11, hq⟩ := bk_bd_some hq
    refine bk_getr C hH fl_RX11_137 hs_9 rfl hr_11 dX11_cell_14 ?_
    refine lv_iload_n hx hb dX11_cell_17 rfl (lv_at hl 1 rfl) ?_
    obtain ⟨hs_14, hq⟩ := bk_ck_some hq
    obtain ⟨r_13, hr_12, hq⟩ := bk_bd_some hq
    refine bk_callV (rest := []) (As := [.int x1]) (ro := (some (.int r_13))) (Y1 := Y) (V1 := V) C hH hl.1 (c_X2_hoursFitting hr_12) mc_X2_hoursFitting mv_X2_hoursFitting lk_RX11_386 hs_14 rfl rfl ⟨rfl, rfl⟩ ⟨by decide, by decide⟩ rfl (Nat.le_of_ble_eq_true rfl) dX11_cell_18 ⟨by decide, by decide⟩ (fun H locs hH => ?_)
    refine vx_ret ?_
    cases hq
    exact bk_iret C hH dX11_cell_21
set_option maxRecDepth 100000 in
theorem c_X11_cell {l : Launch} {G : bk_G} {N : Nat} {Y : bk_Lay} {V : bk_Val} (hst : l.stackTraces = false) {a0 : Nat} {x1 : Int32} {out : Nat ⊕ (Int32)} (hq : q_X11_cell N Y V a0 x1 = some out) : vx_Met l yX11_cell (bk_ws yX11_cell cX11_cell 2 (some FieldType.int)) rm_X11_cell (bk_Pc G [.ref a0, .int x1] Y V) (bk_QX (fun (o : Int32) => bk_Q G (some (.int o)) Y V) out) (bk_XC G Y V out) 1 6 (bk_A G) :=
  bk_metx (by decide) (Nat.le_of_ble_eq_true rfl) (fun p e s m args below meth c ls C hT9 hH hl => w_X11_cell C hst hT9 _ _ _ _ _ _ _ hl hH hq)

def rm_X11_enough : Room := bk_rm 9 1 6 220
set_option maxRecDepth 100000 in
set_option maxHeartbeats 4000000 in
theorem w_X11_enough_34 {XC : String → State → State → Prop} (C : bk_C G p s m args meth c cX11_enough RX11 5 (some FieldType.int)) (hst : l.stackTraces = false) (hT9 : ∀ x ∈ c.exceptionTable.toList, False) : ∀ (n : Nat), ∀ (Y : bk_Lay) (V : bk_Val) (a0 : Nat) (w2 : Int64) (x4 : Int32) (H : Heap) (locs : List Loc) (ls : Array Slot) (out : Nat ⊕ (Int32 × bk_Lay × bk_Val)), lv_has ls 5 [(0, .ref a0), (2, .long w2), (4, .int x4)] → bk_H G Y V s.heap H locs → q_X11_enough_34 N n Y V a0 w2 x4 = some out → W p l e rm_X11_enough s m args below meth c H locs 1 6 (vx_MQ below (bk_QX (fun (o : Int32 × bk_Lay × bk_Val) => bk_Q G (some (.int o.1)) o.2.1 o.2.2) out) XC args s 1 6 (bk_A G)) (F0 m 34 ls []) := by
  have hx := C.1
  have hb := C.2.1
  intro n
  induction n with
  | zero =>
    intro Y V a0 w2 x4 H locs ls out hl hH hq
    exact nomatch (show (none : Option (Nat ⊕ (Int32 × bk_Lay × bk_Val))) = some out from hq)
  | succ n ih =>
    intro Y V a0 w2 x4 H locs ls out hl hH hq
    unfold q_X11_enough_34 at hq
    refine lv_iload hx hb dX11_enough_34 (lv_at hl 2 rfl) ?_
    refine lv_sipush (v := 600) hx hb dX11_enough_36 (by decide) ?_
    refine lv_icmp_gt (tgt := 65) hx hb dX11_enough_39 (by decide) (fun hc_9 => ?_) (fun hc_9 => ?_)
    · rw [if_pos hc_9] at hq
      refine lv_iconst (v := (-1)) hx hb dX11_enough_65 (by decide) ?_
      refine vx_ret ?_
      cases hq
      exact bk_iret C hH dX11_enough_66
    · rw [if_neg hc_9] at hq
      refine lv_aload_n hx hb dX11_enough_42 rfl (lv_at hl 0 rfl) ?_
      obtain ⟨hs_1, hq⟩ := bk_ck_some hq
      obtain ⟨b_2, hr_3, hq⟩ := bk_bd_some hq
      refine bk_getr C hH fl_RX11_19 hs_1 rfl hr_3 dX11_enough_43 ?_
      refine lv_iload hx hb dX11_enough_46 (lv_at hl 2 rfl) ?_
      obtain ⟨hs_7, hq⟩ := bk_ck_some hq
      obtain ⟨r_5, V_6, hr_4, hq⟩ := bk_bd2_some hq
      refine bk_callV (rest := []) (As := [.int x4]) (ro := (some (.long r_5))) (Y1 := Y) (V1 := V_6) C hH hl.1 (c_X3_totalBehind hr_4) mc_X3_totalBehind mv_X3_totalBehind lk_RX11_301 hs_7 rfl rfl ⟨rfl, rfl⟩ ⟨by decide, by decide⟩ rfl (Nat.le_of_ble_eq_true rfl) dX11_enough_48 ⟨by decide, by decide⟩ (fun H locs hH => ?_)
      refine lv_lload_n hx hb dX11_enough_51 rfl (lv_at hl 1 rfl) ?_
      refine W.lcmp hx hb dX11_enough_52 ?_
      refine lv_if_gt (tgt := 59) hx hb dX11_enough_53 (by decide) (fun hc_8 => ?_) (fun hc_8 => ?_)
      · rw [if_pos hc_8] at hq
        refine lv_iinc (v := (x4 + 1)) (lv' := [(4, .int (x4 + 1)), (0, .ref a0), (2, .long w2)]) hx hb dX11_enough_59 hl (k := 2) rfl rfl (by decide) rfl (fun ls hl => ?_)
        refine lv_goto (tgt := 34) hx hb dX11_enough_62 (by decide) ?_
        exact ih _ _ _ _ _ _ _ _ _ (lv_sub hl [1, 2, 0] rfl) hH hq
      · rw [if_neg hc_8] at hq
        refine lv_iload hx hb dX11_enough_56 (lv_at hl 2 rfl) ?_
        refine vx_ret ?_
        cases hq
        exact bk_iret C hH dX11_enough_58

set_option maxRecDepth 100000 in
set_option maxHeartbeats 4000000 in
theorem w_X11_enough (C : bk_C G p s m args meth c cX11_enough RX11 5 (some FieldType.int)) (hst : l.stackTraces = false) (hT9 : ∀ x ∈ c.exceptionTable.toList, False) : ∀ (Y : bk_Lay) (V : bk_Val) (a0 : Nat) (x1 : Int32) (H : Heap) (locs : List Loc) (ls : Array Slot) (out : Nat ⊕ (Int32 × bk_Lay × bk_Val)), lv_has ls 5 [(0, .ref a0), (1, .int x1)] → bk_H G Y V s.heap H locs → q_X11_enough N Y V a0 x1 = some out → W p l e rm_X11_enough s m args below meth c H locs 0 0 (vx_MQ below (bk_QX (fun (o : Int32 × bk_Lay × bk_Val) => bk_Q G (some (.int o.1)) o.2.1 o.2.2) out) (bk_XC G Y V out) args s 1 6 (bk_A G)) (F0 m 0 ls []) := by
  have hx := C.1
  have hb := C.2.1
  intro Y V a0 x1 H locs ls out hl hH hq
  unfold q_X11_enough at hq
  refine lv_iload_n hx hb dX11_enough_0 rfl (lv_at hl 1 rfl) ?_
  refine lv_iconst (v := 0) hx hb dX11_enough_1 (by decide) ?_
  refine lv_sipush (v := 1000) hx hb dX11_enough_2 (by decide) ?_
  obtain ⟨r_11, hr_10, hq⟩ := bk_bd_some hq
  refine bk_callS (rest := []) (As := [.int x1, .int 0, .int 1000]) (ro := (some (.int r_11))) (Y1 := Y) (V1 := V) C hH hl.1 (c_X11_isWithin hr_10) mc_X11_isWithin st_X11_isWithin lk_RX11_78 rfl ⟨rfl, rfl⟩ ⟨by decide, by decide⟩ rfl (Nat.le_of_ble_eq_true rfl) dX11_enough_5 ⟨by decide, by decide⟩ (fun H locs hH => ?_)
  rcases bk_bdx_cases hq with ⟨x9_13, hr_12, ho_14⟩ | ⟨u8, hr_12, hq⟩
  · exact bk_callSt (rest := []) (As := [.int r_11]) (e9 := x9_13) C hT9 hH hl.1 (c_X11_needArgument hst hr_12) ho_14 mc_X11_needArgument st_X11_needArgument ml_RX11_82 rfl ⟨rfl, rfl⟩ ⟨by decide, by decide⟩ rfl (Nat.le_of_ble_eq_true rfl) dX11_enough_8 ⟨by decide, by decide⟩ (by decide) (by decide)
  · refine bk_callSr (rest := []) (As := [.int r_11]) (o1 := u8) (ro := none) (Y1 := Y) (V1 := V) rfl C hH hl.1 (c_X11_needArgument hst hr_12) mc_X11_needArgument st_X11_needArgument ml_RX11_82 rfl ⟨rfl, rfl⟩ ⟨by decide, by decide⟩ rfl (Nat.le_of_ble_eq_true rfl) dX11_enough_8 ⟨by decide, by decide⟩ (fun H locs hH => ?_)
    refine W.widen (k := 1) (n := 6) (by decide) (by decide) ?_
    refine lv_aload_n hx hb dX11_enough_11 rfl (lv_at hl 0 rfl) ?_
    obtain ⟨hs_18, hq⟩ := bk_ck_some hq
    obtain ⟨Y_16, V_17, hr_15, hq⟩ := bk_bd2_some hq
    refine bk_callV (rest := []) (As := []) (ro := none) (Y1 := Y_16) (V1 := V_17) C hH hl.1 (c_X11_setOut hr_15) mc_X11_setOut mv_X11_setOut lk_RX11_286 hs_18 rfl rfl ⟨rfl, rfl⟩ ⟨by decide, by decide⟩ rfl (Nat.le_of_ble_eq_true rfl) dX11_enough_12 ⟨by decide, by decide⟩ (fun H locs hH => ?_)
    refine lv_aload_n hx hb dX11_enough_15 rfl (lv_at hl 0 rfl) ?_
    obtain ⟨hs_19, hq⟩ := bk_ck_some hq
    obtain ⟨b_20, hr_21, hq⟩ := bk_bd_some hq
    refine bk_getr C hH fl_RX11_19 hs_19 rfl hr_21 dX11_enough_16 ?_
    refine lv_iconst (v := 0) hx hb dX11_enough_19 (by decide) ?_
    obtain ⟨hs_25, hq⟩ := bk_ck_some hq
    obtain ⟨r_23, V_24, hr_22, hq⟩ := bk_bd2_some hq
    refine bk_callV (rest := []) (As := [.int 0]) (ro := (some (.long r_23))) (Y1 := Y_16) (V1 := V_24) C hH hl.1 (c_X3_totalBehind hr_22) mc_X3_totalBehind mv_X3_totalBehind lk_RX11_301 hs_25 rfl rfl ⟨rfl, rfl⟩ ⟨by decide, by decide⟩ rfl (Nat.le_of_ble_eq_true rfl) dX11_enough_20 ⟨by decide, by decide⟩ (fun H locs hH => ?_)
    refine bk_ldc2 C kl_RX11_304 dX11_enough_23 ?_
    refine lv_ldiv hx hb dX11_enough_26 (by decide) ?_
    refine lv_iload_n hx hb dX11_enough_27 rfl (lv_at hl 1 rfl) ?_
    refine bk_i2l hx hb dX11_enough_28 ?_
    refine lv_lmul hx hb dX11_enough_29 ?_
    refine lv_topl (fun w2_26 e_27 => ?_)
    have hq := bk_let_eq e_27 hq
    refine lv_lstore_n (lv' := [(2, .long w2_26), (0, .ref a0), (1, .int x1)]) hx hb dX11_enough_30 rfl hl (by decide) rfl (fun ls hl => ?_)
    refine lv_iconst (v := 0) hx hb dX11_enough_31 (by decide) ?_
    refine lv_istore (lv' := [(4, .int 0), (2, .long w2_26), (0, .ref a0), (1, .int x1)]) hx hb dX11_enough_32 hl (by decide) rfl (fun ls hl => ?_)
    exact w_X11_enough_34 C hst hT9 _ _ _ _ _ _ _ _ _ _ (lv_sub hl [2, 1, 0] rfl) hH hq
set_option maxRecDepth 100000 in
theorem c_X11_enough {l : Launch} {G : bk_G} {N : Nat} {Y : bk_Lay} {V : bk_Val} (hst : l.stackTraces = false) {a0 : Nat} {x1 : Int32} {out : Nat ⊕ (Int32 × bk_Lay × bk_Val)} (hq : q_X11_enough N Y V a0 x1 = some out) : vx_Met l yX11_enough (bk_ws yX11_enough cX11_enough 5 (some FieldType.int)) rm_X11_enough (bk_Pc G [.ref a0, .int x1] Y V) (bk_QX (fun (o : Int32 × bk_Lay × bk_Val) => bk_Q G (some (.int o.1)) o.2.1 o.2.2) out) (bk_XC G Y V out) 1 6 (bk_A G) :=
  bk_metx (by decide) (Nat.le_of_ble_eq_true rfl) (fun p e s m args below meth c ls C hT9 hH hl => w_X11_enough C hst hT9 _ _ _ _ _ _ _ _ hl hH hq)

def rm_X11_count : Room := bk_rm 8 1 6 200
set_option maxRecDepth 100000 in
set_option maxHeartbeats 4000000 in
theorem w_X11_count (C : bk_C G p s m args meth c cX11_count RX11 2 (some FieldType.int)) (hst : l.stackTraces = false) (hT9 : ∀ x ∈ c.exceptionTable.toList, False) : ∀ (V : bk_Val) (a0 : Nat) (x1 : Int32) (H : Heap) (locs : List Loc) (ls : Array Slot) (out : Nat ⊕ (Int32)), lv_has ls 2 [(0, .ref a0), (1, .int x1)] → bk_H G Y V s.heap H locs → q_X11_count N Y V a0 x1 = some out → W p l e rm_X11_count s m args below meth c H locs 0 0 (vx_MQ below (bk_QX (fun (o : Int32) => bk_Q G (some (.int o)) Y V) out) (bk_XC G Y V out) args s 1 6 (bk_A G)) (F0 m 0 ls []) := by
  have hx := C.1
  have hb := C.2.1
  intro V a0 x1 H locs ls out hl hH hq
  unfold q_X11_count at hq
  refine lv_iload_n hx hb dX11_count_0 rfl (lv_at hl 1 rfl) ?_
  refine lv_iconst (v := 0) hx hb dX11_count_1 (by decide) ?_
  refine lv_bipush (v := 7) hx hb dX11_count_2 (by decide) ?_
  obtain ⟨r_2, hr_1, hq⟩ := bk_bd_some hq
  refine bk_callS (rest := []) (As := [.int x1, .int 0, .int 7]) (ro := (some (.int r_2))) (Y1 := Y) (V1 := V) C hH hl.1 (c_X11_isWithin hr_1) mc_X11_isWithin st_X11_isWithin lk_RX11_78 rfl ⟨rfl, rfl⟩ ⟨by decide, by decide⟩ rfl (Nat.le_of_ble_eq_true rfl) dX11_count_4 ⟨by decide, by decide⟩ (fun H locs hH => ?_)
  refine lv_if_eq (tgt := 20) hx hb dX11_count_7 (by decide) (fun hc_69 => ?_) (fun hc_69 => ?_)
  · rw [if_pos hc_69] at hq
    refine lv_iload_n hx hb dX11_count_20 rfl (lv_at hl 1 rfl) ?_
    refine lv_bipush (v := 11) hx hb dX11_count_21 (by decide) ?_
    refine lv_bipush (v := 14) hx hb dX11_count_23 (by decide) ?_
    obtain ⟨r_4, hr_3, hq⟩ := bk_bd_some hq
    refine bk_callS (rest := []) (As := [.int x1, .int 11, .int 14]) (ro := (some (.int r_4))) (Y1 := Y) (V1 := V) C hH hl.1 (c_X11_isWithin hr_3) mc_X11_isWithin st_X11_isWithin lk_RX11_78 rfl ⟨rfl, rfl⟩ ⟨by decide, by decide⟩ rfl (Nat.le_of_ble_eq_true rfl) dX11_count_25 ⟨by decide, by decide⟩ (fun H locs hH => ?_)
    refine lv_if_eq (tgt := 44) hx hb dX11_count_28 (by decide) (fun hc_60 => ?_) (fun hc_60 => ?_)
    · rw [if_pos hc_60] at hq
      refine lv_iload_n hx hb dX11_count_44 rfl (lv_at hl 1 rfl) ?_
      refine lv_topi (fun sw_5 e_6 => ?_)
      have hq := bk_let_eq e_6 hq
      by_cases hc_14 : sw_5 = 8
      · rw [if_pos hc_14] at hq
        refine lv_tableIn (off := 67) (tgt := 112) hx hb dX11_count_45 (by rw [hc_14]; decide) (by rw [hc_14]; decide) (by rw [hc_14]; decide) (by decide) ?_
        refine lv_aload_n hx hb dX11_count_112 rfl (lv_at hl 0 rfl) ?_
        obtain ⟨hs_7, hq⟩ := bk_ck_some hq
        obtain ⟨b_8, hr_9, hq⟩ := bk_bd_some hq
        refine bk_getr C hH fl_RX11_33 hs_7 rfl hr_9 dX11_count_113 ?_
        obtain ⟨hs_10, hq⟩ := bk_ck_some hq
        obtain ⟨b_11, hr_12, hq⟩ := bk_bd_some hq
        refine bk_getr C hH fl_RX11_121 hs_10 rfl hr_12 dX11_count_116 ?_
        obtain ⟨hs_13, hq⟩ := bk_ck_some hq
        refine bk_geti C hH fl_RX11_125 hs_13 rfl dX11_count_119 ?_
        refine W.widen (k := 1) (n := 6) (by decide) (by decide) ?_
        refine vx_ret ?_
        cases hq
        exact bk_iret C hH dX11_count_122
      · rw [if_neg hc_14] at hq
        by_cases hc_22 : sw_5 = 9
        · rw [if_pos hc_22] at hq
          refine lv_tableIn (off := 78) (tgt := 123) hx hb dX11_count_45 (by rw [hc_22]; decide) (by rw [hc_22]; decide) (by rw [hc_22]; decide) (by decide) ?_
          refine lv_aload_n hx hb dX11_count_123 rfl (lv_at hl 0 rfl) ?_
          obtain ⟨hs_15, hq⟩ := bk_ck_some hq
          obtain ⟨b_16, hr_17, hq⟩ := bk_bd_some hq
          refine bk_getr C hH fl_RX11_33 hs_15 rfl hr_17 dX11_count_124 ?_
          obtain ⟨hs_18, hq⟩ := bk_ck_some hq
          obtain ⟨b_19, hr_20, hq⟩ := bk_bd_some hq
          refine bk_getr C hH fl_RX11_130 hs_18 rfl hr_20 dX11_count_127 ?_
          obtain ⟨hs_21, hq⟩ := bk_ck_some hq
          refine bk_geti C hH fl_RX11_134 hs_21 rfl dX11_count_130 ?_
          refine W.widen (k := 1) (n := 6) (by decide) (by decide) ?_
          refine vx_ret ?_
          cases hq
          exact bk_iret C hH dX11_count_133
        · rw [if_neg hc_22] at hq
          by_cases hc_30 : sw_5 = 10
          · rw [if_pos hc_30] at hq
            refine lv_tableIn (off := 89) (tgt := 134) hx hb dX11_count_45 (by rw [hc_30]; decide) (by rw [hc_30]; decide) (by rw [hc_30]; decide) (by decide) ?_
            refine lv_aload_n hx hb dX11_count_134 rfl (lv_at hl 0 rfl) ?_
            obtain ⟨hs_23, hq⟩ := bk_ck_some hq
            obtain ⟨b_24, hr_25, hq⟩ := bk_bd_some hq
            refine bk_getr C hH fl_RX11_33 hs_23 rfl hr_25 dX11_count_135 ?_
            obtain ⟨hs_26, hq⟩ := bk_ck_some hq
            obtain ⟨b_27, hr_28, hq⟩ := bk_bd_some hq
            refine bk_getr C hH fl_RX11_137 hs_26 rfl hr_28 dX11_count_138 ?_
            obtain ⟨hs_29, hq⟩ := bk_ck_some hq
            refine bk_geti C hH fl_RX11_141 hs_29 rfl dX11_count_141 ?_
            refine W.widen (k := 1) (n := 6) (by decide) (by decide) ?_
            refine vx_ret ?_
            cases hq
            exact bk_iret C hH dX11_count_144
          · rw [if_neg hc_30] at hq
            by_cases hc_35 : sw_5 = 15
            · rw [if_pos hc_35] at hq
              refine lv_tableIn (off := 100) (tgt := 145) hx hb dX11_count_45 (by rw [hc_35]; decide) (by rw [hc_35]; decide) (by rw [hc_35]; decide) (by decide) ?_
              refine lv_aload_n hx hb dX11_count_145 rfl (lv_at hl 0 rfl) ?_
              obtain ⟨hs_31, hq⟩ := bk_ck_some hq
              obtain ⟨b_32, hr_33, hq⟩ := bk_bd_some hq
              refine bk_getr C hH fl_RX11_63 hs_31 rfl hr_33 dX11_count_146 ?_
              obtain ⟨hs_34, hq⟩ := bk_ck_some hq
              refine bk_geti C hH fl_RX11_144 hs_34 rfl dX11_count_149 ?_
              refine W.widen (k := 1) (n := 6) (by decide) (by decide) ?_
              refine vx_ret ?_
              cases hq
              exact bk_iret C hH dX11_count_152
            · rw [if_neg hc_35] at hq
              by_cases hc_40 : sw_5 = 16
              · rw [if_pos hc_40] at hq
                refine lv_tableIn (off := 108) (tgt := 153) hx hb dX11_count_45 (by rw [hc_40]; decide) (by rw [hc_40]; decide) (by rw [hc_40]; decide) (by decide) ?_
                refine lv_aload_n hx hb dX11_count_153 rfl (lv_at hl 0 rfl) ?_
                obtain ⟨hs_36, hq⟩ := bk_ck_some hq
                obtain ⟨b_37, hr_38, hq⟩ := bk_bd_some hq
                refine bk_getr C hH fl_RX11_63 hs_36 rfl hr_38 dX11_count_154 ?_
                obtain ⟨hs_39, hq⟩ := bk_ck_some hq
                refine bk_geti C hH fl_RX11_147 hs_39 rfl dX11_count_157 ?_
                refine W.widen (k := 1) (n := 6) (by decide) (by decide) ?_
                refine vx_ret ?_
                cases hq
                exact bk_iret C hH dX11_count_160
              · rw [if_neg hc_40] at hq
                by_cases hc_42 : sw_5 = 17
                · rw [if_pos hc_42] at hq
                  refine lv_tableIn (off := 116) (tgt := 161) hx hb dX11_count_45 (by rw [hc_42]; decide) (by rw [hc_42]; decide) (by rw [hc_42]; decide) (by decide) ?_
                  refine lv_aload_n hx hb dX11_count_161 rfl (lv_at hl 0 rfl) ?_
                  obtain ⟨hs_41, hq⟩ := bk_ck_some hq
                  refine bk_geti C hH fl_RX11_99 hs_41 rfl dX11_count_162 ?_
                  refine W.widen (k := 1) (n := 6) (by decide) (by decide) ?_
                  refine vx_ret ?_
                  cases hq
                  exact bk_iret C hH dX11_count_165
                · rw [if_neg hc_42] at hq
                  by_cases hc_47 : sw_5 = 18
                  · rw [if_pos hc_47] at hq
                    refine lv_tableIn (off := 121) (tgt := 166) hx hb dX11_count_45 (by rw [hc_47]; decide) (by rw [hc_47]; decide) (by rw [hc_47]; decide) (by decide) ?_
                    refine lv_aload_n hx hb dX11_count_166 rfl (lv_at hl 0 rfl) ?_
                    obtain ⟨hs_43, hq⟩ := bk_ck_some hq
                    obtain ⟨b_44, hr_45, hq⟩ := bk_bd_some hq
                    refine bk_getr C hH fl_RX11_10 hs_43 rfl hr_45 dX11_count_167 ?_
                    obtain ⟨hs_46, hq⟩ := bk_ck_some hq
                    refine bk_geti C hH fl_RX11_75 hs_46 rfl dX11_count_170 ?_
                    refine W.widen (k := 1) (n := 6) (by decide) (by decide) ?_
                    refine vx_ret ?_
                    cases hq
                    exact bk_iret C hH dX11_count_173
                  · rw [if_neg hc_47] at hq
                    by_cases hc_49 : sw_5 = 19
                    · rw [if_pos hc_49] at hq
                      refine lv_tableIn (off := 129) (tgt := 174) hx hb dX11_count_45 (by rw [hc_49]; decide) (by rw [hc_49]; decide) (by rw [hc_49]; decide) (by decide) ?_
                      refine lv_aload_n hx hb dX11_count_174 rfl (lv_at hl 0 rfl) ?_
                      obtain ⟨hs_48, hq⟩ := bk_ck_some hq
                      refine bk_geti C hH fl_RX11_93 hs_48 rfl dX11_count_175 ?_
                      refine W.widen (k := 1) (n := 6) (by decide) (by decide) ?_
                      refine vx_ret ?_
                      cases hq
                      exact bk_iret C hH dX11_count_178
                    · rw [if_neg hc_49] at hq
                      by_cases hc_51 : sw_5 = 20
                      · rw [if_pos hc_51] at hq
                        refine lv_tableIn (off := 134) (tgt := 179) hx hb dX11_count_45 (by rw [hc_51]; decide) (by rw [hc_51]; decide) (by rw [hc_51]; decide) (by decide) ?_
                        refine lv_aload_n hx hb dX11_count_179 rfl (lv_at hl 0 rfl) ?_
                        obtain ⟨hs_50, hq⟩ := bk_ck_some hq
                        refine bk_geti C hH fl_RX11_150 hs_50 rfl dX11_count_180 ?_
                        refine W.widen (k := 1) (n := 6) (by decide) (by decide) ?_
                        refine vx_ret ?_
                        cases hq
                        exact bk_iret C hH dX11_count_183
                      · rw [if_neg hc_51] at hq
                        by_cases ho : sw_5.toInt < 8 ∨ 20 < sw_5.toInt
                        · refine lv_tableOut (tgt := 184) hx hb dX11_count_45 ho (by decide) ?_
                          cases hq
                          exact bk_throwX (i := 36) (e9 := 1) (tx := "no such count") C hst hT9 hH hl.1 rfl rfl x0_1 x1_1 x2_1 x5_1 cl_RX11_153 in_exc1 cx_1 lx_1 (by decide) (by decide) tw1_157 tw2_157 tw3_157_153 dX11_count_184 dX11_count_187 (Or.inl ⟨rfl, dX11_count_188⟩) dX11_count_190 dX11_count_193 (by decide) (by decide) (by decide) (by decide) (by decide) (by decide)
                        · have hg : sw_5.toInt = 11 ∨ sw_5.toInt = 12 ∨ sw_5.toInt = 13 ∨ sw_5.toInt = 14 := by have n0 := bk_neI (k := 8) hc_14 (by decide) (by decide); have n1 := bk_neI (k := 9) hc_22 (by decide) (by decide); have n2 := bk_neI (k := 10) hc_30 (by decide) (by decide); have n3 := bk_neI (k := 15) hc_35 (by decide) (by decide); have n4 := bk_neI (k := 16) hc_40 (by decide) (by decide); have n5 := bk_neI (k := 17) hc_42 (by decide) (by decide); have n6 := bk_neI (k := 18) hc_47 (by decide) (by decide); have n7 := bk_neI (k := 19) hc_49 (by decide) (by decide); have n8 := bk_neI (k := 20) hc_51 (by decide) (by decide); omega
                          refine lv_tableIn (off := 139) (tgt := 184) hx hb dX11_count_45 (fun h => ho (Or.inl h)) (fun h => ho (Or.inr h)) (by rcases hg with hg | hg | hg | hg <;> rw [hg] <;> decide) (by decide) ?_
                          cases hq
                          exact bk_throwX (i := 36) (e9 := 1) (tx := "no such count") C hst hT9 hH hl.1 rfl rfl x0_1 x1_1 x2_1 x5_1 cl_RX11_153 in_exc1 cx_1 lx_1 (by decide) (by decide) tw1_157 tw2_157 tw3_157_153 dX11_count_184 dX11_count_187 (Or.inl ⟨rfl, dX11_count_188⟩) dX11_count_190 dX11_count_193 (by decide) (by decide) (by decide) (by decide) (by decide) (by decide)
    · rw [if_neg hc_60] at hq
      refine lv_aload_n hx hb dX11_count_31 rfl (lv_at hl 0 rfl) ?_
      obtain ⟨hs_52, hq⟩ := bk_ck_some hq
      obtain ⟨b_53, hr_54, hq⟩ := bk_bd_some hq
      refine bk_getr C hH fl_RX11_33 hs_52 rfl hr_54 dX11_count_32 ?_
      obtain ⟨hs_55, hq⟩ := bk_ck_some hq
      obtain ⟨b_56, hr_57, hq⟩ := bk_bd_some hq
      refine bk_getr C hH fl_RX11_118 hs_55 rfl hr_57 dX11_count_35 ?_
      refine lv_iload_n hx hb dX11_count_38 rfl (lv_at hl 1 rfl) ?_
      refine lv_bipush (v := 11) hx hb dX11_count_39 (by decide) ?_
      refine lv_isub hx hb dX11_count_41 ?_
      obtain ⟨ha_58, hq⟩ := bk_ck_some hq
      obtain ⟨hi_59, hq⟩ := bk_ck_some hq
      refine bk_iald C hH (bk_arr ha_58) (bk_in_vp hi_59) dX11_count_42 ?_
      refine W.widen (k := 1) (n := 6) (by decide) (by decide) ?_
      refine vx_ret ?_
      cases hq
      exact bk_iret C hH dX11_count_43
  · rw [if_neg hc_69] at hq
    refine lv_aload_n hx hb dX11_count_10 rfl (lv_at hl 0 rfl) ?_
    obtain ⟨hs_61, hq⟩ := bk_ck_some hq
    obtain ⟨b_62, hr_63, hq⟩ := bk_bd_some hq
    refine bk_getr C hH fl_RX11_33 hs_61 rfl hr_63 dX11_count_11 ?_
    obtain ⟨hs_64, hq⟩ := bk_ck_some hq
    obtain ⟨b_65, hr_66, hq⟩ := bk_bd_some hq
    refine bk_getr C hH fl_RX11_115 hs_64 rfl hr_66 dX11_count_14 ?_
    refine lv_iload_n hx hb dX11_count_17 rfl (lv_at hl 1 rfl) ?_
    obtain ⟨ha_67, hq⟩ := bk_ck_some hq
    obtain ⟨hi_68, hq⟩ := bk_ck_some hq
    refine bk_iald C hH (bk_arr ha_67) (bk_in_vp hi_68) dX11_count_18 ?_
    refine W.widen (k := 1) (n := 6) (by decide) (by decide) ?_
    refine vx_ret ?_
    cases hq
    exact bk_iret C hH dX11_count_19
set_option maxRecDepth 100000 in
theorem c_X11_count {l : Launch} {G : bk_G} {N : Nat} {Y : bk_Lay} {V : bk_Val} (hst : l.stackTraces = false) {a0 : Nat} {x1 : Int32} {out : Nat ⊕ (Int32)} (hq : q_X11_count N Y V a0 x1 = some out) : vx_Met l yX11_count (bk_ws yX11_count cX11_count 2 (some FieldType.int)) rm_X11_count (bk_Pc G [.ref a0, .int x1] Y V) (bk_QX (fun (o : Int32) => bk_Q G (some (.int o)) Y V) out) (bk_XC G Y V out) 1 6 (bk_A G) :=
  bk_metx (by decide) (Nat.le_of_ble_eq_true rfl) (fun p e s m args below meth c ls C hT9 hH hl => w_X11_count C hst hT9 _ _ _ _ _ _ _ hl hH hq)

def rm_X11_pumpedOver : Room := bk_rm 5 0 0 116
set_option maxRecDepth 100000 in
set_option maxHeartbeats 4000000 in
theorem w_X11_pumpedOver_95 (C : bk_C G p s m args meth c cX11_pumpedOver RX11 9 (some FieldType.int)) (k20 : bk_Val → Nat → Int32 → Int32 → Int32 → Int32 → Int32 → Option (Int32 × bk_Val)) (i20 : ∀ (V : bk_Val) (a0 : Nat) (x1 : Int32) (x2 : Int32) (x3 : Int32) (x4 : Int32) (x5 : Int32) (H : Heap) (locs : List Loc) (ls : Array Slot) (out : Int32 × bk_Val), lv_has ls 9 [(0, .ref a0), (1, .int x1), (2, .int x2), (3, .int x3), (4, .int x4), (5, .int x5)] → bk_H G Y V s.heap H locs → k20 V a0 x1 x2 x3 x4 x5 = some out → W p l e rm_X11_pumpedOver s m args below meth c H locs 0 0 (MQ below (bk_Q G (some (.int out.1)) Y out.2) args s 0 0 (bk_A G)) (F0 m 20 ls [])) : ∀ (V : bk_Val) (a0 : Nat) (x1 : Int32) (x2 : Int32) (x4 : Int32) (x5 : Int32) (x7 : Int32) (H : Heap) (locs : List Loc) (ls : Array Slot) (out : Int32 × bk_Val), lv_has ls 9 [(0, .ref a0), (1, .int x1), (2, .int x2), (4, .int x4), (5, .int x5), (7, .int x7)] → bk_H G Y V s.heap H locs → q_X11_pumpedOver_95 N Y k20 V a0 x1 x2 x4 x5 x7 = some out → W p l e rm_X11_pumpedOver s m args below meth c H locs 0 0 (MQ below (bk_Q G (some (.int out.1)) Y out.2) args s 0 0 (bk_A G)) (F0 m 95 ls []) := by
  have hx := C.1
  have hb := C.2.1
  intro V a0 x1 x2 x4 x5 x7 H locs ls out hl hH hq
  unfold q_X11_pumpedOver_95 at hq
  refine lv_iload hx hb dX11_pumpedOver_95 (lv_at hl 5 rfl) ?_
  refine lv_sipush (v := 10000) hx hb dX11_pumpedOver_97 (by decide) ?_
  refine lv_icmp_ge (tgt := 105) hx hb dX11_pumpedOver_100 (by decide) (fun hc_1 => ?_) (fun hc_1 => ?_)
  · rw [if_pos hc_1] at hq
    refine lv_iload hx hb dX11_pumpedOver_105 (lv_at hl 5 rfl) ?_
    refine lv_istore_n (lv' := [(3, .int x7), (0, .ref a0), (1, .int x1), (2, .int x2), (4, .int x4), (5, .int x5), (7, .int x7)]) hx hb dX11_pumpedOver_107 rfl hl (by decide) rfl (fun ls hl => ?_)
    refine lv_iinc (v := (x5 + 1)) (lv' := [(5, .int (x5 + 1)), (3, .int x7), (0, .ref a0), (1, .int x1), (2, .int x2), (4, .int x4), (7, .int x7)]) hx hb dX11_pumpedOver_108 hl (k := 5) rfl rfl (by decide) rfl (fun ls hl => ?_)
    refine lv_goto (tgt := 20) hx hb dX11_pumpedOver_111 (by decide) ?_
    exact i20 _ _ _ _ _ _ _ _ _ _ _ (lv_sub hl [2, 3, 4, 1, 5, 0] rfl) hH hq
  · rw [if_neg hc_1] at hq
    refine lv_iconst (v := (-1)) hx hb dX11_pumpedOver_103 (by decide) ?_
    cases hq
    exact bk_iret C hH dX11_pumpedOver_104

set_option maxRecDepth 100000 in
set_option maxHeartbeats 4000000 in
theorem w_X11_pumpedOver_20 (C : bk_C G p s m args meth c cX11_pumpedOver RX11 9 (some FieldType.int)) : ∀ (n : Nat), ∀ (V : bk_Val) (a0 : Nat) (x1 : Int32) (x2 : Int32) (x3 : Int32) (x4 : Int32) (x5 : Int32) (H : Heap) (locs : List Loc) (ls : Array Slot) (out : Int32 × bk_Val), lv_has ls 9 [(0, .ref a0), (1, .int x1), (2, .int x2), (3, .int x3), (4, .int x4), (5, .int x5)] → bk_H G Y V s.heap H locs → q_X11_pumpedOver_20 N Y n V a0 x1 x2 x3 x4 x5 = some out → W p l e rm_X11_pumpedOver s m args below meth c H locs 0 0 (MQ below (bk_Q G (some (.int out.1)) Y out.2) args s 0 0 (bk_A G)) (F0 m 20 ls []) := by
  have hx := C.1
  have hb := C.2.1
  intro n
  induction n with
  | zero =>
    intro V a0 x1 x2 x3 x4 x5 H locs ls out hl hH hq
    exact nomatch (show (none : Option (Int32 × bk_Val)) = some out from hq)
  | succ n ih =>
    intro V a0 x1 x2 x3 x4 x5 H locs ls out hl hH hq
    unfold q_X11_pumpedOver_20 at hq
    refine lv_iload hx hb dX11_pumpedOver_20 (lv_at hl 5 rfl) ?_
    refine lv_bipush (v := 6) hx hb dX11_pumpedOver_22 (by decide) ?_
    refine lv_iload_n hx hb dX11_pumpedOver_24 rfl (lv_at hl 1 rfl) ?_
    refine lv_imul hx hb dX11_pumpedOver_25 ?_
    refine lv_icmp_ge (tgt := 114) hx hb dX11_pumpedOver_26 (by decide) (fun hc_18 => ?_) (fun hc_18 => ?_)
    · rw [if_pos hc_18] at hq
      refine lv_iload hx hb dX11_pumpedOver_114 (lv_at hl 4 rfl) ?_
      cases hq
      exact bk_iret C hH dX11_pumpedOver_116
    · rw [if_neg hc_18] at hq
      refine lv_aload_n hx hb dX11_pumpedOver_29 rfl (lv_at hl 0 rfl) ?_
      obtain ⟨hs_2, hq⟩ := bk_ck_some hq
      obtain ⟨b_3, hr_4, hq⟩ := bk_bd_some hq
      refine bk_getr C hH fl_RX11_63 hs_2 rfl hr_4 dX11_pumpedOver_30 ?_
      obtain ⟨hs_5, hq⟩ := bk_ck_some hq
      refine bk_geti C hH fl_RX11_147 hs_5 rfl dX11_pumpedOver_33 ?_
      refine lv_iload hx hb dX11_pumpedOver_36 (lv_at hl 5 rfl) ?_
      refine lv_iadd hx hb dX11_pumpedOver_38 ?_
      refine lv_istore (lv' := [(6, .int ((bk_rI V b_3 2) + x5)), (0, .ref a0), (1, .int x1), (2, .int x2), (3, .int x3), (4, .int x4), (5, .int x5)]) hx hb dX11_pumpedOver_39 hl (by decide) rfl (fun ls hl => ?_)
      refine lv_iload_n hx hb dX11_pumpedOver_41 rfl (lv_at hl 4 rfl) ?_
      refine lv_aload_n hx hb dX11_pumpedOver_42 rfl (lv_at hl 1 rfl) ?_
      obtain ⟨b_6, hr_7, hq⟩ := bk_bd_some hq
      refine bk_getr C hH fl_RX11_33 hs_2 rfl hr_7 dX11_pumpedOver_43 ?_
      refine lv_iload_n hx hb dX11_pumpedOver_46 rfl (lv_at hl 3 rfl) ?_
      refine lv_iload_n hx hb dX11_pumpedOver_47 rfl (lv_at hl 4 rfl) ?_
      refine lv_iload hx hb dX11_pumpedOver_48 (lv_at hl 0 rfl) ?_
      refine lv_iconst (v := 1) hx hb dX11_pumpedOver_50 (by decide) ?_
      obtain ⟨hs_11, hq⟩ := bk_ck_some hq
      obtain ⟨r_9, V_10, hr_8, hq⟩ := bk_bd2_some hq
      refine bk_callV (rest := [.int x3]) (As := [.int x2, .int x3, .int ((bk_rI V b_3 2) + x5), .int 1]) (ro := (some (.int r_9))) (Y1 := Y) (V1 := V_10) C hH hl.1 (c_X5_goneBy hr_8) mc_X5_goneBy mv_X5_goneBy lk_RX11_185 hs_11 rfl rfl ⟨rfl, rfl⟩ ⟨by decide, by decide⟩ rfl (Nat.le_of_ble_eq_true rfl) dX11_pumpedOver_51 ⟨by decide, by decide⟩ (fun H locs hH => ?_)
      refine lv_isub hx hb dX11_pumpedOver_54 ?_
      refine lv_istore (lv' := [(7, .int (x3 - r_9)), (6, .int ((bk_rI V b_3 2) + x5)), (0, .ref a0), (1, .int x1), (2, .int x2), (3, .int x3), (4, .int x4), (5, .int x5)]) hx hb dX11_pumpedOver_55 hl (by decide) rfl (fun ls hl => ?_)
      refine lv_iload hx hb dX11_pumpedOver_57 (lv_at hl 0 rfl) ?_
      refine lv_sipush (v := 10000) hx hb dX11_pumpedOver_59 (by decide) ?_
      refine lv_icmp_ge (tgt := 95) hx hb dX11_pumpedOver_62 (by decide) (fun hc_17 => ?_) (fun hc_17 => ?_)
      · rw [if_pos hc_17] at hq
        exact w_X11_pumpedOver_95 C _ ih _ _ _ _ _ _ _ _ _ _ _ (lv_sub hl [2, 3, 4, 6, 7, 0] rfl) hH hq
      · rw [if_neg hc_17] at hq
        refine lv_iinc (v := (x4 + 1)) (lv' := [(4, .int (x4 + 1)), (7, .int (x3 - r_9)), (6, .int ((bk_rI V b_3 2) + x5)), (0, .ref a0), (1, .int x1), (2, .int x2), (3, .int x3), (5, .int x5)]) hx hb dX11_pumpedOver_65 hl (k := 6) rfl rfl (by decide) rfl (fun ls hl => ?_)
        refine lv_aload_n hx hb dX11_pumpedOver_68 rfl (lv_at hl 3 rfl) ?_
        refine bk_getr C hH fl_RX11_33 hs_2 rfl hr_7 dX11_pumpedOver_69 ?_
        obtain ⟨r_13, hr_12, hq⟩ := bk_bd_some hq
        refine bk_callV (rest := []) (As := []) (ro := (some (.int r_13))) (Y1 := Y) (V1 := V_10) C hH hl.1 (c_X5_fullPressure hr_12) mc_X5_fullPressure mv_X5_fullPressure lk_RX11_201 hs_11 rfl rfl ⟨rfl, rfl⟩ ⟨by decide, by decide⟩ rfl (Nat.le_of_ble_eq_true rfl) dX11_pumpedOver_72 ⟨by decide, by decide⟩ (fun H locs hH => ?_)
        refine lv_istore (lv' := [(8, .int r_13), (4, .int (x4 + 1)), (7, .int (x3 - r_9)), (6, .int ((bk_rI V b_3 2) + x5)), (0, .ref a0), (1, .int x1), (2, .int x2), (3, .int x3), (5, .int x5)]) hx hb dX11_pumpedOver_75 hl (by decide) rfl (fun ls hl => ?_)
        refine lv_iload hx hb dX11_pumpedOver_77 (lv_at hl 0 rfl) ?_
        refine lv_aload_n hx hb dX11_pumpedOver_79 rfl (lv_at hl 4 rfl) ?_
        refine bk_getr C hH fl_RX11_33 hs_2 rfl hr_7 dX11_pumpedOver_80 ?_
        refine lv_iload_n hx hb dX11_pumpedOver_83 rfl (lv_at hl 6 rfl) ?_
        refine lv_iload hx hb dX11_pumpedOver_84 (lv_at hl 0 rfl) ?_
        refine lv_iload hx hb dX11_pumpedOver_86 (lv_at hl 3 rfl) ?_
        refine lv_iconst (v := 1) hx hb dX11_pumpedOver_88 (by decide) ?_
        obtain ⟨r_15, V_16, hr_14, hq⟩ := bk_bd2_some hq
        refine bk_callV (rest := [.int r_13]) (As := [.int x2, .int r_13, .int ((bk_rI V b_3 2) + x5), .int 1]) (ro := (some (.int r_15))) (Y1 := Y) (V1 := V_16) C hH hl.1 (c_X5_goneBy hr_14) mc_X5_goneBy mv_X5_goneBy lk_RX11_185 hs_11 rfl rfl ⟨rfl, rfl⟩ ⟨by decide, by decide⟩ rfl (Nat.le_of_ble_eq_true rfl) dX11_pumpedOver_89 ⟨by decide, by decide⟩ (fun H locs hH => ?_)
        refine lv_isub hx hb dX11_pumpedOver_92 ?_
        refine lv_istore (lv' := [(7, .int (r_13 - r_15)), (8, .int r_13), (4, .int (x4 + 1)), (6, .int ((bk_rI V b_3 2) + x5)), (0, .ref a0), (1, .int x1), (2, .int x2), (3, .int x3), (5, .int x5)]) hx hb dX11_pumpedOver_93 hl (by decide) rfl (fun ls hl => ?_)
        exact w_X11_pumpedOver_95 C _ ih _ _ _ _ _ _ _ _ _ _ _ (lv_sub hl [4, 5, 6, 2, 8, 0] rfl) hH hq

set_option maxRecDepth 100000 in
set_option maxHeartbeats 4000000 in
theorem w_X11_pumpedOver (C : bk_C G p s m args meth c cX11_pumpedOver RX11 9 (some FieldType.int)) : ∀ (V : bk_Val) (a0 : Nat) (x1 : Int32) (H : Heap) (locs : List Loc) (ls : Array Slot) (out : Int32 × bk_Val), lv_has ls 9 [(0, .ref a0), (1, .int x1)] → bk_H G Y V s.heap H locs → q_X11_pumpedOver N Y V a0 x1 = some out → W p l e rm_X11_pumpedOver s m args below meth c H locs 0 0 (MQ below (bk_Q G (some (.int out.1)) Y out.2) args s 0 0 (bk_A G)) (F0 m 0 ls []) := by
  have hx := C.1
  have hb := C.2.1
  intro V a0 x1 H locs ls out hl hH hq
  unfold q_X11_pumpedOver at hq
  refine lv_aload_n hx hb dX11_pumpedOver_0 rfl (lv_at hl 0 rfl) ?_
  refine lv_iconst (v := 1) hx hb dX11_pumpedOver_1 (by decide) ?_
  obtain ⟨hs_21, hq⟩ := bk_ck_some hq
  obtain ⟨r_20, hr_19, hq⟩ := bk_bd_some hq
  refine bk_callV (rest := []) (As := [.int 1]) (ro := (some (.int r_20))) (Y1 := Y) (V1 := V) C hH hl.1 (c_X11_leakingHoles hr_19) mc_X11_leakingHoles mv_X11_leakingHoles lk_RX11_181 hs_21 rfl rfl ⟨rfl, rfl⟩ ⟨by decide, by decide⟩ rfl (Nat.le_of_ble_eq_true rfl) dX11_pumpedOver_2 ⟨by decide, by decide⟩ (fun H locs hH => ?_)
  refine lv_istore_n (lv' := [(2, .int r_20), (0, .ref a0), (1, .int x1)]) hx hb dX11_pumpedOver_5 rfl hl (by decide) rfl (fun ls hl => ?_)
  refine lv_aload_n hx hb dX11_pumpedOver_6 rfl (lv_at hl 1 rfl) ?_
  obtain ⟨b_22, hr_23, hq⟩ := bk_bd_some hq
  refine bk_getr C hH fl_RX11_63 hs_21 rfl hr_23 dX11_pumpedOver_7 ?_
  obtain ⟨hs_24, hq⟩ := bk_ck_some hq
  refine bk_geti C hH fl_RX11_144 hs_24 rfl dX11_pumpedOver_10 ?_
  refine lv_istore_n (lv' := [(3, .int (bk_rI V b_22 1)), (2, .int r_20), (0, .ref a0), (1, .int x1)]) hx hb dX11_pumpedOver_13 rfl hl (by decide) rfl (fun ls hl => ?_)
  refine lv_iconst (v := 0) hx hb dX11_pumpedOver_14 (by decide) ?_
  refine lv_istore (lv' := [(4, .int 0), (3, .int (bk_rI V b_22 1)), (2, .int r_20), (0, .ref a0), (1, .int x1)]) hx hb dX11_pumpedOver_15 hl (by decide) rfl (fun ls hl => ?_)
  refine lv_iconst (v := 0) hx hb dX11_pumpedOver_17 (by decide) ?_
  refine lv_istore (lv' := [(5, .int 0), (4, .int 0), (3, .int (bk_rI V b_22 1)), (2, .int r_20), (0, .ref a0), (1, .int x1)]) hx hb dX11_pumpedOver_18 hl (by decide) rfl (fun ls hl => ?_)
  exact w_X11_pumpedOver_20 C _ _ _ _ _ _ _ _ _ _ _ _ (lv_sub hl [4, 5, 3, 2, 1, 0] rfl) hH hq
set_option maxRecDepth 100000 in
theorem c_X11_pumpedOver {l : Launch} {G : bk_G} {N : Nat} {Y : bk_Lay} {V : bk_Val} {a0 : Nat} {x1 : Int32} {out : Int32 × bk_Val} (hq : q_X11_pumpedOver N Y V a0 x1 = some out) : Met l yX11_pumpedOver (bk_ws yX11_pumpedOver cX11_pumpedOver 9 (some FieldType.int)) rm_X11_pumpedOver (bk_Pc G [.ref a0, .int x1] Y V) (bk_Q G (some (.int out.1)) Y out.2) 0 0 (bk_A G) :=
  bk_met (by decide) (Nat.le_of_ble_eq_true rfl) (fun p e s m args below meth c ls C hnm hH hl => w_X11_pumpedOver C _ _ _ _ _ _ _ hl hH hq)

def rm_X11_ride : Room := bk_rm 9 2 12 220
set_option maxRecDepth 100000 in
set_option maxHeartbeats 4000000 in
theorem w_X11_ride (C : bk_C G p s m args meth c cX11_ride RX11 4 (some FieldType.int)) (hst : l.stackTraces = false) (hT9 : ∀ x ∈ c.exceptionTable.toList, False) : ∀ (V : bk_Val) (a0 : Nat) (x1 : Int32) (x2 : Int32) (H : Heap) (locs : List Loc) (ls : Array Slot) (out : Nat ⊕ (Int32 × bk_Val)), lv_has ls 4 [(0, .ref a0), (1, .int x1), (2, .int x2)] → bk_H G Y V s.heap H locs → q_X11_ride N Y V a0 x1 x2 = some out → W p l e rm_X11_ride s m args below meth c H locs 0 0 (vx_MQ below (bk_QX (fun (o : Int32 × bk_Val) => bk_Q G (some (.int o.1)) Y o.2) out) (bk_XC G Y V out) args s 2 12 (bk_A G)) (F0 m 0 ls []) := by
  have hx := C.1
  have hb := C.2.1
  intro V a0 x1 x2 H locs ls out hl hH hq
  unfold q_X11_ride at hq
  refine lv_iload_n hx hb dX11_ride_0 rfl (lv_at hl 2 rfl) ?_
  refine lv_iconst (v := 0) hx hb dX11_ride_1 (by decide) ?_
  refine lv_iconst (v := 1) hx hb dX11_ride_2 (by decide) ?_
  obtain ⟨r_2, hr_1, hq⟩ := bk_bd_some hq
  refine bk_callS (rest := []) (As := [.int x2, .int 0, .int 1]) (ro := (some (.int r_2))) (Y1 := Y) (V1 := V) C hH hl.1 (c_X11_isWithin hr_1) mc_X11_isWithin st_X11_isWithin lk_RX11_78 rfl ⟨rfl, rfl⟩ ⟨by decide, by decide⟩ rfl (Nat.le_of_ble_eq_true rfl) dX11_ride_3 ⟨by decide, by decide⟩ (fun H locs hH => ?_)
  rcases bk_bdx_cases hq with ⟨x9_4, hr_3, ho_5⟩ | ⟨u6, hr_3, hq⟩
  · exact bk_callSt (rest := []) (As := [.int r_2]) (e9 := x9_4) C hT9 hH hl.1 (c_X11_needElement hst hr_3) ho_5 mc_X11_needElement st_X11_needElement ml_RX11_214 rfl ⟨rfl, rfl⟩ ⟨by decide, by decide⟩ rfl (Nat.le_of_ble_eq_true rfl) dX11_ride_6 ⟨by decide, by decide⟩ (by decide) (by decide)
  · refine bk_callSr (rest := []) (As := [.int r_2]) (o1 := u6) (ro := none) (Y1 := Y) (V1 := V) rfl C hH hl.1 (c_X11_needElement hst hr_3) mc_X11_needElement st_X11_needElement ml_RX11_214 rfl ⟨rfl, rfl⟩ ⟨by decide, by decide⟩ rfl (Nat.le_of_ble_eq_true rfl) dX11_ride_6 ⟨by decide, by decide⟩ (fun H locs hH => ?_)
    refine W.widen (k := 1) (n := 6) (by decide) (by decide) ?_
    refine lv_iload_n hx hb dX11_ride_9 rfl (lv_at hl 1 rfl) ?_
    refine lv_iconst (v := 0) hx hb dX11_ride_10 (by decide) ?_
    refine lv_bipush (v := 60) hx hb dX11_ride_11 (by decide) ?_
    obtain ⟨r_7, hr_6, hq⟩ := bk_bd_some hq
    refine bk_callS (rest := []) (As := [.int x1, .int 0, .int 60]) (ro := (some (.int r_7))) (Y1 := Y) (V1 := V) C hH hl.1 (c_X11_isWithin hr_6) mc_X11_isWithin st_X11_isWithin lk_RX11_78 rfl ⟨rfl, rfl⟩ ⟨by decide, by decide⟩ rfl (Nat.le_of_ble_eq_true rfl) dX11_ride_13 ⟨by decide, by decide⟩ (fun H locs hH => ?_)
    rcases bk_bdx_cases hq with ⟨x9_9, hr_8, ho_10⟩ | ⟨u16, hr_8, hq⟩
    · exact bk_callSt (rest := []) (As := [.int r_7]) (e9 := x9_9) C hT9 hH hl.1 (c_X11_needArgument hst hr_8) ho_10 mc_X11_needArgument st_X11_needArgument ml_RX11_82 rfl ⟨rfl, rfl⟩ ⟨by decide, by decide⟩ rfl (Nat.le_of_ble_eq_true rfl) dX11_ride_16 ⟨by decide, by decide⟩ (by decide) (by decide)
    · refine bk_callSr (rest := []) (As := [.int r_7]) (o1 := u16) (ro := none) (Y1 := Y) (V1 := V) rfl C hH hl.1 (c_X11_needArgument hst hr_8) mc_X11_needArgument st_X11_needArgument ml_RX11_82 rfl ⟨rfl, rfl⟩ ⟨by decide, by decide⟩ rfl (Nat.le_of_ble_eq_true rfl) dX11_ride_16 ⟨by decide, by decide⟩ (fun H locs hH => ?_)
      refine W.widen (k := 2) (n := 12) (by decide) (by decide) ?_
      refine lv_aload_n hx hb dX11_ride_19 rfl (lv_at hl 0 rfl) ?_
      refine lv_iload_n hx hb dX11_ride_20 rfl (lv_at hl 1 rfl) ?_
      obtain ⟨hs_14, hq⟩ := bk_ck_some hq
      obtain ⟨r_12, V_13, hr_11, hq⟩ := bk_bd2_some hq
      refine bk_callV (rest := []) (As := [.int x1]) (ro := (some (.int r_12))) (Y1 := Y) (V1 := V_13) C hH hl.1 (c_X11_pumpedOver hr_11) mc_X11_pumpedOver mv_X11_pumpedOver lk_RX11_364 hs_14 rfl rfl ⟨rfl, rfl⟩ ⟨by decide, by decide⟩ rfl (Nat.le_of_ble_eq_true rfl) dX11_ride_21 ⟨by decide, by decide⟩ (fun H locs hH => ?_)
      refine lv_istore_n (lv' := [(3, .int r_12), (0, .ref a0), (1, .int x1), (2, .int x2)]) hx hb dX11_ride_24 rfl hl (by decide) rfl (fun ls hl => ?_)
      refine lv_iload_n hx hb dX11_ride_25 rfl (lv_at hl 3 rfl) ?_
      refine lv_if_eq (tgt := 34) hx hb dX11_ride_26 (by decide) (fun hc_18 => ?_) (fun hc_18 => ?_)
      · rw [if_pos hc_18] at hq
        refine lv_iload_n hx hb dX11_ride_34 rfl (lv_at hl 0 rfl) ?_
        refine lv_goto (tgt := 43) hx hb dX11_ride_35 (by decide) ?_
        refine vx_ret ?_
        cases hq
        exact bk_iret C hH dX11_ride_43
      · rw [if_neg hc_18] at hq
        refine lv_iload_n hx hb dX11_ride_29 rfl (lv_at hl 0 rfl) ?_
        refine lv_iconst (v := (-1)) hx hb dX11_ride_30 (by decide) ?_
        refine lv_icmp_ne (tgt := 38) hx hb dX11_ride_31 (by decide) (fun hc_17 => ?_) (fun hc_17 => ?_)
        · rw [if_neg hc_17] at hq
          refine lv_iload_n hx hb dX11_ride_38 rfl (lv_at hl 2 rfl) ?_
          refine lv_iload_n hx hb dX11_ride_39 rfl (lv_at hl 0 rfl) ?_
          obtain ⟨r_16, hr_15, hq⟩ := bk_bd_some hq
          refine bk_callS (rest := []) (As := [.int x1, .int r_12]) (ro := (some (.int r_16))) (Y1 := Y) (V1 := V_13) C hH hl.1 (c_X11_minutesRidden hr_15) mc_X11_minutesRidden st_X11_minutesRidden lk_RX11_367 rfl ⟨rfl, rfl⟩ ⟨by decide, by decide⟩ rfl (Nat.le_of_ble_eq_true rfl) dX11_ride_40 ⟨by decide, by decide⟩ (fun H locs hH => ?_)
          refine vx_ret ?_
          cases hq
          exact bk_iret C hH dX11_ride_43
        · rw [if_pos hc_17] at hq
          refine lv_iload_n hx hb dX11_ride_34 rfl (lv_at hl 0 rfl) ?_
          refine lv_goto (tgt := 43) hx hb dX11_ride_35 (by decide) ?_
          refine vx_ret ?_
          cases hq
          exact bk_iret C hH dX11_ride_43
set_option maxRecDepth 100000 in
theorem c_X11_ride {l : Launch} {G : bk_G} {N : Nat} {Y : bk_Lay} {V : bk_Val} (hst : l.stackTraces = false) {a0 : Nat} {x1 : Int32} {x2 : Int32} {out : Nat ⊕ (Int32 × bk_Val)} (hq : q_X11_ride N Y V a0 x1 x2 = some out) : vx_Met l yX11_ride (bk_ws yX11_ride cX11_ride 4 (some FieldType.int)) rm_X11_ride (bk_Pc G [.ref a0, .int x1, .int x2] Y V) (bk_QX (fun (o : Int32 × bk_Val) => bk_Q G (some (.int o.1)) Y o.2) out) (bk_XC G Y V out) 2 12 (bk_A G) :=
  bk_metx (by decide) (Nat.le_of_ble_eq_true rfl) (fun p e s m args below meth c ls C hT9 hH hl => w_X11_ride C hst hT9 _ _ _ _ _ _ _ _ hl hH hq)

def rm_X11_leak : Room := bk_rm 5 0 0 116
set_option maxRecDepth 100000 in
set_option maxHeartbeats 4000000 in
theorem w_X11_leak (C : bk_C G p s m args meth c cX11_leak RX11 2 (some FieldType.int)) : ∀ (V : bk_Val) (a0 : Nat) (x1 : Int32) (H : Heap) (locs : List Loc) (ls : Array Slot) (out : Int32 × bk_Val), lv_has ls 2 [(0, .ref a0), (1, .int x1)] → bk_H G Y V s.heap H locs → q_X11_leak N Y V a0 x1 = some out → W p l e rm_X11_leak s m args below meth c H locs 0 0 (MQ below (bk_Q G (some (.int out.1)) Y out.2) args s 0 0 (bk_A G)) (F0 m 0 ls []) := by
  have hx := C.1
  have hb := C.2.1
  intro V a0 x1 H locs ls out hl hH hq
  unfold q_X11_leak at hq
  refine lv_aload_n hx hb dX11_leak_0 rfl (lv_at hl 0 rfl) ?_
  obtain ⟨hs_1, hq⟩ := bk_ck_some hq
  obtain ⟨b_2, hr_3, hq⟩ := bk_bd_some hq
  refine bk_getr C hH fl_RX11_33 hs_1 rfl hr_3 dX11_leak_1 ?_
  refine lv_aload_n hx hb dX11_leak_4 rfl (lv_at hl 0 rfl) ?_
  refine lv_iload_n hx hb dX11_leak_5 rfl (lv_at hl 1 rfl) ?_
  obtain ⟨r_5, hr_4, hq⟩ := bk_bd_some hq
  refine bk_callV (rest := [.ref b_2]) (As := [.int x1]) (ro := (some (.int r_5))) (Y1 := Y) (V1 := V) C hH hl.1 (c_X11_leakingHoles hr_4) mc_X11_leakingHoles mv_X11_leakingHoles lk_RX11_181 hs_1 rfl rfl ⟨rfl, rfl⟩ ⟨by decide, by decide⟩ rfl (Nat.le_of_ble_eq_true rfl) dX11_leak_6 ⟨by decide, by decide⟩ (fun H locs hH => ?_)
  refine lv_aload_n hx hb dX11_leak_9 rfl (lv_at hl 0 rfl) ?_
  obtain ⟨b_6, hr_7, hq⟩ := bk_bd_some hq
  refine bk_getr C hH fl_RX11_63 hs_1 rfl hr_7 dX11_leak_10 ?_
  obtain ⟨hs_8, hq⟩ := bk_ck_some hq
  refine bk_geti C hH fl_RX11_144 hs_8 rfl dX11_leak_13 ?_
  refine lv_aload_n hx hb dX11_leak_16 rfl (lv_at hl 0 rfl) ?_
  refine bk_getr C hH fl_RX11_63 hs_1 rfl hr_7 dX11_leak_17 ?_
  refine bk_geti C hH fl_RX11_147 hs_8 rfl dX11_leak_20 ?_
  refine lv_iload_n hx hb dX11_leak_23 rfl (lv_at hl 1 rfl) ?_
  obtain ⟨hs_12, hq⟩ := bk_ck_some hq
  obtain ⟨r_10, V_11, hr_9, hq⟩ := bk_bd2_some hq
  refine bk_callV (rest := []) (As := [.int r_5, .int (bk_rI V b_6 1), .int (bk_rI V b_6 2), .int x1]) (ro := (some (.int r_10))) (Y1 := Y) (V1 := V_11) C hH hl.1 (c_X5_goneBy hr_9) mc_X5_goneBy mv_X5_goneBy lk_RX11_185 hs_12 rfl rfl ⟨rfl, rfl⟩ ⟨by decide, by decide⟩ rfl (Nat.le_of_ble_eq_true rfl) dX11_leak_24 ⟨by decide, by decide⟩ (fun H locs hH => ?_)
  cases hq
  exact bk_iret C hH dX11_leak_27
set_option maxRecDepth 100000 in
theorem c_X11_leak {l : Launch} {G : bk_G} {N : Nat} {Y : bk_Lay} {V : bk_Val} {a0 : Nat} {x1 : Int32} {out : Int32 × bk_Val} (hq : q_X11_leak N Y V a0 x1 = some out) : Met l yX11_leak (bk_ws yX11_leak cX11_leak 2 (some FieldType.int)) rm_X11_leak (bk_Pc G [.ref a0, .int x1] Y V) (bk_Q G (some (.int out.1)) Y out.2) 0 0 (bk_A G) :=
  bk_met (by decide) (Nat.le_of_ble_eq_true rfl) (fun p e s m args below meth c ls C hnm hH hl => w_X11_leak C _ _ _ _ _ _ _ hl hH hq)

def rm_X11_dip : Room := bk_rm 4 2 341 94
set_option maxRecDepth 100000 in
set_option maxHeartbeats 4000000 in
theorem w_X11_dip_19 (C : bk_C G p s m args meth c cX11_dip RX11 5 (some FieldType.int)) : ∀ (Y : bk_Lay) (V : bk_Val) (a0 : Nat) (H : Heap) (locs : List Loc) (ls : Array Slot) (out : Int32 × bk_Lay × bk_Val), lv_has ls 5 [(0, .ref a0)] → bk_H G Y V s.heap H locs → q_X11_dip_19 N Y V a0 = some out → W p l e rm_X11_dip s m args below meth c H locs 0 0 (MQ below (bk_Q G (some (.int out.1)) out.2.1 out.2.2) args s 2 341 (bk_A G)) (F0 m 19 ls []) := by
  have hx := C.1
  have hb := C.2.1
  intro Y V a0 H locs ls out hl hH hq
  unfold q_X11_dip_19 at hq
  refine lv_aload_n hx hb dX11_dip_19 rfl (lv_at hl 0 rfl) ?_
  obtain ⟨hs_4, hq⟩ := bk_ck_some hq
  obtain ⟨r_2, V_3, hr_1, hq⟩ := bk_bd2_some hq
  refine bk_callV (rest := []) (As := []) (ro := (some (.int r_2))) (Y1 := Y) (V1 := V_3) C hH hl.1 (c_X11_refuseAct hr_1) mc_X11_refuseAct mv_X11_refuseAct lk_RX11_189 hs_4 rfl rfl ⟨rfl, rfl⟩ ⟨by decide, by decide⟩ rfl (Nat.le_of_ble_eq_true rfl) dX11_dip_20 ⟨by decide, by decide⟩ (fun H locs hH => ?_)
  refine W.widen (k := 2) (n := 341) (by decide) (by decide) ?_
  cases hq
  exact bk_iret C hH dX11_dip_23

set_option maxRecDepth 100000 in
set_option maxHeartbeats 4000000 in
theorem w_X11_dip_41 (C : bk_C G p s m args meth c cX11_dip RX11 5 (some FieldType.int)) : ∀ (n : Nat), ∀ (Y : bk_Lay) (V : bk_Val) (a0 : Nat) (x1 : Int32) (x2 : Int32) (a3 : Nat) (x4 : Int32) (H : Heap) (locs : List Loc) (ls : Array Slot) (out : Int32 × bk_Lay × bk_Val), lv_has ls 5 [(0, .ref a0), (1, .int x1), (2, .int x2), (3, .ref a3), (4, .int x4)] → bk_H G Y V s.heap H locs → q_X11_dip_41 N n Y V a0 x1 x2 a3 x4 = some out → W p l e rm_X11_dip s m args below meth c H locs 1 336 (MQ below (bk_Q G (some (.int out.1)) out.2.1 out.2.2) args s 2 341 (bk_A G)) (F0 m 41 ls []) := by
  have hx := C.1
  have hb := C.2.1
  intro n
  induction n with
  | zero =>
    intro Y V a0 x1 x2 a3 x4 H locs ls out hl hH hq
    exact nomatch (show (none : Option (Int32 × bk_Lay × bk_Val)) = some out from hq)
  | succ n ih =>
    intro Y V a0 x1 x2 a3 x4 H locs ls out hl hH hq
    unfold q_X11_dip_41 at hq
    refine lv_iload hx hb dX11_dip_41 (lv_at hl 4 rfl) ?_
    refine lv_aload_n hx hb dX11_dip_43 rfl (lv_at hl 0 rfl) ?_
    obtain ⟨hs_5, hq⟩ := bk_ck_some hq
    obtain ⟨b_6, hr_7, hq⟩ := bk_bd_some hq
    refine bk_getr C hH fl_RX11_33 hs_5 rfl hr_7 dX11_dip_44 ?_
    obtain ⟨hs_10, hq⟩ := bk_ck_some hq
    obtain ⟨r_9, hr_8, hq⟩ := bk_bd_some hq
    refine bk_callV (rest := [.int x4]) (As := []) (ro := (some (.int r_9))) (Y1 := Y) (V1 := V) C hH hl.1 (c_X5_hand hr_8) mc_X5_hand mv_X5_hand lk_RX11_228 hs_10 rfl rfl ⟨rfl, rfl⟩ ⟨by decide, by decide⟩ rfl (Nat.le_of_ble_eq_true rfl) dX11_dip_47 ⟨by decide, by decide⟩ (fun H locs hH => ?_)
    refine lv_icmp_ge (tgt := 82) hx hb dX11_dip_50 (by decide) (fun hc_21 => ?_) (fun hc_21 => ?_)
    · rw [if_pos hc_21] at hq
      refine lv_aload_n hx hb dX11_dip_82 rfl (lv_at hl 0 rfl) ?_
      refine lv_aload_n hx hb dX11_dip_83 rfl (lv_at hl 3 rfl) ?_
      obtain ⟨r_12, Y_13, V_14, hr_11, hq⟩ := bk_bd3_some hq
      refine bk_callV (rest := []) (As := [.ref a3]) (ro := (some (.int r_12))) (Y1 := Y_13) (V1 := V_14) C hH hl.1 (c_X11_believe hr_11) mc_X11_believe mv_X11_believe lk_RX11_244 hs_5 rfl rfl ⟨rfl, rfl⟩ ⟨by decide, by decide⟩ rfl (Nat.le_of_ble_eq_true rfl) dX11_dip_84 ⟨by decide, by decide⟩ (fun H locs hH => ?_)
      refine W.widen (k := 2) (n := 341) (by decide) (by decide) ?_
      cases hq
      exact bk_iret C hH dX11_dip_87
    · rw [if_neg hc_21] at hq
      refine lv_aload_n hx hb dX11_dip_53 rfl (lv_at hl 3 rfl) ?_
      refine lv_aload_n hx hb dX11_dip_54 rfl (lv_at hl 0 rfl) ?_
      refine bk_getr C hH fl_RX11_33 hs_5 rfl hr_7 dX11_dip_55 ?_
      refine lv_iload_n hx hb dX11_dip_58 rfl (lv_at hl 1 rfl) ?_
      refine lv_iload hx hb dX11_dip_59 (lv_at hl 4 rfl) ?_
      refine lv_iadd hx hb dX11_dip_61 ?_
      obtain ⟨r_16, hr_15, hq⟩ := bk_bd_some hq
      refine bk_callV (rest := [.ref a3]) (As := [.int (x1 + x4)]) (ro := (some (.int r_16))) (Y1 := Y) (V1 := V) C hH hl.1 (c_X5_round hr_15) mc_X5_round mv_X5_round lk_RX11_231 hs_10 rfl rfl ⟨rfl, rfl⟩ ⟨by decide, by decide⟩ rfl (Nat.le_of_ble_eq_true rfl) dX11_dip_62 ⟨by decide, by decide⟩ (fun H locs hH => ?_)
      refine lv_aload_n hx hb dX11_dip_65 rfl (lv_at hl 0 rfl) ?_
      refine bk_getr C hH fl_RX11_33 hs_5 rfl hr_7 dX11_dip_66 ?_
      obtain ⟨r_18, hr_17, hq⟩ := bk_bd_some hq
      refine bk_callV (rest := [.int r_16, .ref a3]) (As := []) (ro := (some (.int r_18))) (Y1 := Y) (V1 := V) C hH hl.1 (c_X5_miss hr_17) mc_X5_miss mv_X5_miss lk_RX11_235 hs_10 rfl rfl ⟨rfl, rfl⟩ ⟨by decide, by decide⟩ rfl (Nat.le_of_ble_eq_true rfl) dX11_dip_69 ⟨by decide, by decide⟩ (fun H locs hH => ?_)
      refine lv_iload_n hx hb dX11_dip_72 rfl (lv_at hl 2 rfl) ?_
      obtain ⟨V_20, hr_19, hq⟩ := bk_bd_some hq
      refine bk_callS (rest := []) (As := [.ref a3, .int r_16, .int r_18, .int x2]) (ro := none) (Y1 := Y) (V1 := V_20) C hH hl.1 (c_X0_lessenInch hr_19) mc_X0_lessenInch st_X0_lessenInch lk_RX11_238 rfl ⟨rfl, rfl⟩ ⟨by decide, by decide⟩ rfl (Nat.le_of_ble_eq_true rfl) dX11_dip_73 ⟨by decide, by decide⟩ (fun H locs hH => ?_)
      refine lv_iinc (v := (x4 + 1)) (lv' := [(4, .int (x4 + 1)), (0, .ref a0), (1, .int x1), (2, .int x2), (3, .ref a3)]) hx hb dX11_dip_76 hl (k := 4) rfl rfl (by decide) rfl (fun ls hl => ?_)
      refine lv_goto (tgt := 41) hx hb dX11_dip_79 (by decide) ?_
      exact ih _ _ _ _ _ _ _ _ _ _ _ (lv_sub hl [1, 2, 3, 4, 0] rfl) hH hq

set_option maxRecDepth 100000 in
set_option maxHeartbeats 4000000 in
theorem w_X11_dip (C : bk_C G p s m args meth c cX11_dip RX11 5 (some FieldType.int)) : ∀ (Y : bk_Lay) (V : bk_Val) (a0 : Nat) (x1 : Int32) (x2 : Int32) (H : Heap) (locs : List Loc) (ls : Array Slot) (out : Int32 × bk_Lay × bk_Val), lv_has ls 5 [(0, .ref a0), (1, .int x1), (2, .int x2)] → bk_H G Y V s.heap H locs → q_X11_dip N Y V a0 x1 x2 = some out → W p l e rm_X11_dip s m args below meth c H locs 0 0 (MQ below (bk_Q G (some (.int out.1)) out.2.1 out.2.2) args s 2 341 (bk_A G)) (F0 m 0 ls []) := by
  have hx := C.1
  have hb := C.2.1
  intro Y V a0 x1 x2 H locs ls out hl hH hq
  unfold q_X11_dip at hq
  refine lv_aload_n hx hb dX11_dip_0 rfl (lv_at hl 0 rfl) ?_
  refine lv_iload_n hx hb dX11_dip_1 rfl (lv_at hl 1 rfl) ?_
  obtain ⟨hs_24, hq⟩ := bk_ck_some hq
  obtain ⟨r_23, hr_22, hq⟩ := bk_bd_some hq
  refine bk_callV (rest := []) (As := [.int x1]) (ro := (some (.int r_23))) (Y1 := Y) (V1 := V) C hH hl.1 (c_X11_isInch hr_22) mc_X11_isInch mv_X11_isInch lk_RX11_220 hs_24 rfl rfl ⟨rfl, rfl⟩ ⟨by decide, by decide⟩ rfl (Nat.le_of_ble_eq_true rfl) dX11_dip_2 ⟨by decide, by decide⟩ (fun H locs hH => ?_)
  refine lv_if_eq (tgt := 19) hx hb dX11_dip_5 (by decide) (fun hc_42 => ?_) (fun hc_42 => ?_)
  · rw [if_pos hc_42] at hq
    exact w_X11_dip_19 C _ _ _ _ _ _ _ (lv_sub hl [0] rfl) hH hq
  · rw [if_neg hc_42] at hq
    refine lv_iload_n hx hb dX11_dip_8 rfl (lv_at hl 2 rfl) ?_
    refine lv_iconst (v := 1) hx hb dX11_dip_9 (by decide) ?_
    refine lv_sipush (v := 600) hx hb dX11_dip_10 (by decide) ?_
    obtain ⟨r_26, hr_25, hq⟩ := bk_bd_some hq
    refine bk_callS (rest := []) (As := [.int x2, .int 1, .int 600]) (ro := (some (.int r_26))) (Y1 := Y) (V1 := V) C hH hl.1 (c_X11_isWithin hr_25) mc_X11_isWithin st_X11_isWithin lk_RX11_78 rfl ⟨rfl, rfl⟩ ⟨by decide, by decide⟩ rfl (Nat.le_of_ble_eq_true rfl) dX11_dip_13 ⟨by decide, by decide⟩ (fun H locs hH => ?_)
    refine lv_if_ne (tgt := 24) hx hb dX11_dip_16 (by decide) (fun hc_41 => ?_) (fun hc_41 => ?_)
    · rw [if_neg hc_41] at hq
      refine lv_aload_n hx hb dX11_dip_24 rfl (lv_at hl 0 rfl) ?_
      obtain ⟨b_27, hr_28, hq⟩ := bk_bd_some hq
      refine bk_getr C hH fl_RX11_63 hs_24 rfl hr_28 dX11_dip_25 ?_
      obtain ⟨hs_29, hq⟩ := bk_ck_some hq
      obtain ⟨b_30, hr_31, hq⟩ := bk_bd_some hq
      refine bk_getr C hH fl_RX11_193 hs_29 rfl hr_31 dX11_dip_28 ?_
      obtain ⟨ha_32, hq⟩ := bk_ck_some hq
      obtain ⟨hy_33, hq⟩ := bk_ck_some hq
      refine bk_clone (rest := []) (K := 336) C hH hl.1 kn_RX11_223 kn_same kn_nat kn_in kn_sel (by decide +kernel) (bk_arr ha_32) hy_33 (by decide) (by decide) (by decide) (by decide) dX11_dip_31 (fun Y_35 V_36 H e_37 e_38 hH => ?_)
      have hq := bk_let_eq e_37 hq
      have hq := bk_let_eq e_38 hq
      obtain ⟨b_34, e_39⟩ : ∃ z, z = bk_sz Y := ⟨_, rfl⟩
      have hq := bk_let_eq e_39 hq
      rw [← e_39]
      refine W.widen (k := 1) (n := 336) (by decide) (by decide) ?_
      obtain ⟨ha_40, hq⟩ := bk_ck_some hq
      refine bk_castJ C hH cc_RX11_224 (bk_arr ha_40) dX11_dip_34 ?_
      refine lv_astore_n (lv' := [(3, .ref b_34), (0, .ref a0), (1, .int x1), (2, .int x2)]) hx hb dX11_dip_37 rfl hl (by decide) rfl (fun ls hl => ?_)
      refine lv_iconst (v := 0) hx hb dX11_dip_38 (by decide) ?_
      refine lv_istore (lv' := [(4, .int 0), (3, .ref b_34), (0, .ref a0), (1, .int x1), (2, .int x2)]) hx hb dX11_dip_39 hl (by decide) rfl (fun ls hl => ?_)
      exact w_X11_dip_41 C _ _ _ _ _ _ _ _ _ _ _ _ (lv_sub hl [2, 3, 4, 1, 0] rfl) hH hq
    · rw [if_pos hc_41] at hq
      exact w_X11_dip_19 C _ _ _ _ _ _ _ (lv_sub hl [0] rfl) hH hq
set_option maxRecDepth 100000 in
theorem c_X11_dip {l : Launch} {G : bk_G} {N : Nat} {Y : bk_Lay} {V : bk_Val} {a0 : Nat} {x1 : Int32} {x2 : Int32} {out : Int32 × bk_Lay × bk_Val} (hq : q_X11_dip N Y V a0 x1 x2 = some out) : Met l yX11_dip (bk_ws yX11_dip cX11_dip 5 (some FieldType.int)) rm_X11_dip (bk_Pc G [.ref a0, .int x1, .int x2] Y V) (bk_Q G (some (.int out.1)) out.2.1 out.2.2) 2 341 (bk_A G) :=
  bk_met (by decide) (Nat.le_of_ble_eq_true rfl) (fun p e s m args below meth c ls C hnm hH hl => w_X11_dip C _ _ _ _ _ _ _ _ _ hl hH hq)

def rm_X11_line : Room := bk_rm 9 1 6 220
set_option maxRecDepth 100000 in
set_option maxHeartbeats 4000000 in
theorem w_X11_line_30 {XC : String → State → State → Prop} (C : bk_C G p s m args meth c cX11_line RX11 5 (some FieldType.int)) (hst : l.stackTraces = false) (hT9 : ∀ x ∈ c.exceptionTable.toList, False) : ∀ (n : Nat), ∀ (V : bk_Val) (a0 : Nat) (x1 : Int32) (w2 : Int64) (x4 : Int32) (H : Heap) (locs : List Loc) (ls : Array Slot) (out : Nat ⊕ (Int32)), lv_has ls 5 [(0, .ref a0), (1, .int x1), (2, .long w2), (4, .int x4)] → bk_H G Y V s.heap H locs → q_X11_line_30 N Y n V a0 x1 w2 x4 = some out → W p l e rm_X11_line s m args below meth c H locs 1 6 (vx_MQ below (bk_QX (fun (o : Int32) => bk_Q G (some (.int o)) Y V) out) XC args s 1 6 (bk_A G)) (F0 m 30 ls []) := by
  have hx := C.1
  have hb := C.2.1
  intro n
  induction n with
  | zero =>
    intro V a0 x1 w2 x4 H locs ls out hl hH hq
    exact nomatch (show (none : Option (Nat ⊕ (Int32))) = some out from hq)
  | succ n ih =>
    intro V a0 x1 w2 x4 H locs ls out hl hH hq
    unfold q_X11_line_30 at hq
    refine lv_iload hx hb dX11_line_30 (lv_at hl 3 rfl) ?_
    refine lv_bipush (v := 60) hx hb dX11_line_32 (by decide) ?_
    refine lv_icmp_gt (tgt := 73) hx hb dX11_line_34 (by decide) (fun hc_14 => ?_) (fun hc_14 => ?_)
    · rw [if_pos hc_14] at hq
      refine lv_iconst (v := (-1)) hx hb dX11_line_73 (by decide) ?_
      refine vx_ret ?_
      cases hq
      exact bk_iret C hH dX11_line_74
    · rw [if_neg hc_14] at hq
      refine lv_aload_n hx hb dX11_line_37 rfl (lv_at hl 0 rfl) ?_
      refine lv_lload_n hx hb dX11_line_38 rfl (lv_at hl 2 rfl) ?_
      obtain ⟨hs_3, hq⟩ := bk_ck_some hq
      obtain ⟨r_2, hr_1, hq⟩ := bk_bd_some hq
      refine bk_callV (rest := []) (As := [.long w2]) (ro := (some (.int r_2))) (Y1 := Y) (V1 := V) C hH hl.1 (c_X11_holeAmong hr_1) mc_X11_holeAmong mv_X11_holeAmong lk_RX11_343 hs_3 rfl rfl ⟨rfl, rfl⟩ ⟨by decide, by decide⟩ rfl (Nat.le_of_ble_eq_true rfl) dX11_line_39 ⟨by decide, by decide⟩ (fun H locs hH => ?_)
      refine lv_iload_n hx hb dX11_line_42 rfl (lv_at hl 1 rfl) ?_
      refine lv_icmp_lt (tgt := 49) hx hb dX11_line_43 (by decide) (fun hc_13 => ?_) (fun hc_13 => ?_)
      · rw [if_pos hc_13] at hq
        refine lv_lload_n hx hb dX11_line_49 rfl (lv_at hl 2 rfl) ?_
        refine lv_aload_n hx hb dX11_line_50 rfl (lv_at hl 0 rfl) ?_
        obtain ⟨b_4, hr_5, hq⟩ := bk_bd_some hq
        refine bk_getr C hH fl_RX11_33 hs_3 rfl hr_5 dX11_line_51 ?_
        obtain ⟨hs_6, hq⟩ := bk_ck_some hq
        obtain ⟨b_7, hr_8, hq⟩ := bk_bd_some hq
        refine bk_getr C hH fl_RX11_115 hs_6 rfl hr_8 dX11_line_54 ?_
        refine lv_bipush (v := 7) hx hb dX11_line_57 (by decide) ?_
        obtain ⟨ha_9, hq⟩ := bk_ck_some hq
        obtain ⟨hi_10, hq⟩ := bk_ck_some hq
        refine bk_iald C hH (bk_arr ha_9) (bk_in_vp hi_10) dX11_line_59 ?_
        refine bk_i2l hx hb dX11_line_60 ?_
        refine lv_lmul hx hb dX11_line_61 ?_
        refine bk_ldc2 C kl_RX11_341 dX11_line_62 ?_
        refine lv_ldiv hx hb dX11_line_65 (by decide) ?_
        refine lv_topl (fun w2_11 e_12 => ?_)
        have hq := bk_let_eq e_12 hq
        refine lv_lstore_n (lv' := [(2, .long w2_11), (0, .ref a0), (1, .int x1), (4, .int x4)]) hx hb dX11_line_66 rfl hl (by decide) rfl (fun ls hl => ?_)
        refine lv_iinc (v := (x4 + 1)) (lv' := [(4, .int (x4 + 1)), (2, .long w2_11), (0, .ref a0), (1, .int x1)]) hx hb dX11_line_67 hl (k := 3) rfl rfl (by decide) rfl (fun ls hl => ?_)
        refine lv_goto (tgt := 30) hx hb dX11_line_70 (by decide) ?_
        exact ih _ _ _ _ _ _ _ _ _ (lv_sub hl [2, 3, 1, 0] rfl) hH hq
      · rw [if_neg hc_13] at hq
        refine lv_iload hx hb dX11_line_46 (lv_at hl 3 rfl) ?_
        refine vx_ret ?_
        cases hq
        exact bk_iret C hH dX11_line_48

set_option maxRecDepth 100000 in
set_option maxHeartbeats 4000000 in
theorem w_X11_line (C : bk_C G p s m args meth c cX11_line RX11 5 (some FieldType.int)) (hst : l.stackTraces = false) (hT9 : ∀ x ∈ c.exceptionTable.toList, False) : ∀ (V : bk_Val) (a0 : Nat) (x1 : Int32) (H : Heap) (locs : List Loc) (ls : Array Slot) (out : Nat ⊕ (Int32)), lv_has ls 5 [(0, .ref a0), (1, .int x1)] → bk_H G Y V s.heap H locs → q_X11_line N Y V a0 x1 = some out → W p l e rm_X11_line s m args below meth c H locs 0 0 (vx_MQ below (bk_QX (fun (o : Int32) => bk_Q G (some (.int o)) Y V) out) (bk_XC G Y V out) args s 1 6 (bk_A G)) (F0 m 0 ls []) := by
  have hx := C.1
  have hb := C.2.1
  intro V a0 x1 H locs ls out hl hH hq
  unfold q_X11_line at hq
  refine lv_iload_n hx hb dX11_line_0 rfl (lv_at hl 1 rfl) ?_
  refine lv_iconst (v := 0) hx hb dX11_line_1 (by decide) ?_
  refine lv_sipush (v := 1000) hx hb dX11_line_2 (by decide) ?_
  obtain ⟨r_16, hr_15, hq⟩ := bk_bd_some hq
  refine bk_callS (rest := []) (As := [.int x1, .int 0, .int 1000]) (ro := (some (.int r_16))) (Y1 := Y) (V1 := V) C hH hl.1 (c_X11_isWithin hr_15) mc_X11_isWithin st_X11_isWithin lk_RX11_78 rfl ⟨rfl, rfl⟩ ⟨by decide, by decide⟩ rfl (Nat.le_of_ble_eq_true rfl) dX11_line_5 ⟨by decide, by decide⟩ (fun H locs hH => ?_)
  rcases bk_bdx_cases hq with ⟨x9_18, hr_17, ho_19⟩ | ⟨u8, hr_17, hq⟩
  · exact bk_callSt (rest := []) (As := [.int r_16]) (e9 := x9_18) C hT9 hH hl.1 (c_X11_needArgument hst hr_17) ho_19 mc_X11_needArgument st_X11_needArgument ml_RX11_82 rfl ⟨rfl, rfl⟩ ⟨by decide, by decide⟩ rfl (Nat.le_of_ble_eq_true rfl) dX11_line_8 ⟨by decide, by decide⟩ (by decide) (by decide)
  · refine bk_callSr (rest := []) (As := [.int r_16]) (o1 := u8) (ro := none) (Y1 := Y) (V1 := V) rfl C hH hl.1 (c_X11_needArgument hst hr_17) mc_X11_needArgument st_X11_needArgument ml_RX11_82 rfl ⟨rfl, rfl⟩ ⟨by decide, by decide⟩ rfl (Nat.le_of_ble_eq_true rfl) dX11_line_8 ⟨by decide, by decide⟩ (fun H locs hH => ?_)
    refine W.widen (k := 1) (n := 6) (by decide) (by decide) ?_
    refine lv_aload_n hx hb dX11_line_11 rfl (lv_at hl 0 rfl) ?_
    obtain ⟨hs_20, hq⟩ := bk_ck_some hq
    obtain ⟨b_21, hr_22, hq⟩ := bk_bd_some hq
    refine bk_getr C hH fl_RX11_33 hs_20 rfl hr_22 dX11_line_12 ?_
    obtain ⟨hs_23, hq⟩ := bk_ck_some hq
    obtain ⟨b_24, hr_25, hq⟩ := bk_bd_some hq
    refine bk_getr C hH fl_RX11_115 hs_23 rfl hr_25 dX11_line_15 ?_
    refine lv_bipush (v := 6) hx hb dX11_line_18 (by decide) ?_
    obtain ⟨ha_26, hq⟩ := bk_ck_some hq
    obtain ⟨hi_27, hq⟩ := bk_ck_some hq
    refine bk_iald C hH (bk_arr ha_26) (bk_in_vp hi_27) dX11_line_20 ?_
    refine bk_i2l hx hb dX11_line_21 ?_
    refine bk_ldc2 C kl_RX11_339 dX11_line_22 ?_
    refine lv_lmul hx hb dX11_line_25 ?_
    refine lv_topl (fun w2_28 e_29 => ?_)
    have hq := bk_let_eq e_29 hq
    refine lv_lstore_n (lv' := [(2, .long w2_28), (0, .ref a0), (1, .int x1)]) hx hb dX11_line_26 rfl hl (by decide) rfl (fun ls hl => ?_)
    refine lv_iconst (v := 0) hx hb dX11_line_27 (by decide) ?_
    refine lv_istore (lv' := [(4, .int 0), (2, .long w2_28), (0, .ref a0), (1, .int x1)]) hx hb dX11_line_28 hl (by decide) rfl (fun ls hl => ?_)
    exact w_X11_line_30 C hst hT9 _ _ _ _ _ _ _ _ _ _ (lv_sub hl [2, 3, 1, 0] rfl) hH hq
set_option maxRecDepth 100000 in
theorem c_X11_line {l : Launch} {G : bk_G} {N : Nat} {Y : bk_Lay} {V : bk_Val} (hst : l.stackTraces = false) {a0 : Nat} {x1 : Int32} {out : Nat ⊕ (Int32)} (hq : q_X11_line N Y V a0 x1 = some out) : vx_Met l yX11_line (bk_ws yX11_line cX11_line 5 (some FieldType.int)) rm_X11_line (bk_Pc G [.ref a0, .int x1] Y V) (bk_QX (fun (o : Int32) => bk_Q G (some (.int o)) Y V) out) (bk_XC G Y V out) 1 6 (bk_A G) :=
  bk_metx (by decide) (Nat.le_of_ble_eq_true rfl) (fun p e s m args below meth c ls C hT9 hH hl => w_X11_line C hst hT9 _ _ _ _ _ _ _ hl hH hq)

def rm_X11_ofSide : Room := bk_rm 9 1 6 220
set_option maxRecDepth 100000 in
set_option maxHeartbeats 4000000 in
theorem w_X11_ofSide (C : bk_C G p s m args meth c cX11_ofSide RX11 2 (some FieldType.int)) (hst : l.stackTraces = false) (hT9 : ∀ x ∈ c.exceptionTable.toList, False) : ∀ (V : bk_Val) (a0 : Nat) (x1 : Int32) (H : Heap) (locs : List Loc) (ls : Array Slot) (out : Nat ⊕ (Int32)), lv_has ls 2 [(0, .ref a0), (1, .int x1)] → bk_H G Y V s.heap H locs → q_X11_ofSide N Y V a0 x1 = some out → W p l e rm_X11_ofSide s m args below meth c H locs 0 0 (vx_MQ below (bk_QX (fun (o : Int32) => bk_Q G (some (.int o)) Y V) out) (bk_XC G Y V out) args s 1 6 (bk_A G)) (F0 m 0 ls []) := by
  have hx := C.1
  have hb := C.2.1
  intro V a0 x1 H locs ls out hl hH hq
  unfold q_X11_ofSide at hq
  refine lv_iload_n hx hb dX11_ofSide_0 rfl (lv_at hl 1 rfl) ?_
  refine lv_iconst (v := 0) hx hb dX11_ofSide_1 (by decide) ?_
  refine lv_iconst (v := 3) hx hb dX11_ofSide_2 (by decide) ?_
  obtain ⟨r_2, hr_1, hq⟩ := bk_bd_some hq
  refine bk_callS (rest := []) (As := [.int x1, .int 0, .int 3]) (ro := (some (.int r_2))) (Y1 := Y) (V1 := V) C hH hl.1 (c_X11_isWithin hr_1) mc_X11_isWithin st_X11_isWithin lk_RX11_78 rfl ⟨rfl, rfl⟩ ⟨by decide, by decide⟩ rfl (Nat.le_of_ble_eq_true rfl) dX11_ofSide_3 ⟨by decide, by decide⟩ (fun H locs hH => ?_)
  rcases bk_bdx_cases hq with ⟨x9_4, hr_3, ho_5⟩ | ⟨u6, hr_3, hq⟩
  · exact bk_callSt (rest := []) (As := [.int r_2]) (e9 := x9_4) C hT9 hH hl.1 (c_X11_needElement hst hr_3) ho_5 mc_X11_needElement st_X11_needElement ml_RX11_214 rfl ⟨rfl, rfl⟩ ⟨by decide, by decide⟩ rfl (Nat.le_of_ble_eq_true rfl) dX11_ofSide_6 ⟨by decide, by decide⟩ (by decide) (by decide)
  · refine bk_callSr (rest := []) (As := [.int r_2]) (o1 := u6) (ro := none) (Y1 := Y) (V1 := V) rfl C hH hl.1 (c_X11_needElement hst hr_3) mc_X11_needElement st_X11_needElement ml_RX11_214 rfl ⟨rfl, rfl⟩ ⟨by decide, by decide⟩ rfl (Nat.le_of_ble_eq_true rfl) dX11_ofSide_6 ⟨by decide, by decide⟩ (fun H locs hH => ?_)
    refine W.widen (k := 1) (n := 6) (by decide) (by decide) ?_
    refine lv_aload_n hx hb dX11_ofSide_9 rfl (lv_at hl 0 rfl) ?_
    obtain ⟨hs_6, hq⟩ := bk_ck_some hq
    obtain ⟨b_7, hr_8, hq⟩ := bk_bd_some hq
    refine bk_getr C hH fl_RX11_63 hs_6 rfl hr_8 dX11_ofSide_10 ?_
    obtain ⟨hs_9, hq⟩ := bk_ck_some hq
    obtain ⟨b_10, hr_11, hq⟩ := bk_bd_some hq
    refine bk_getr C hH fl_RX11_193 hs_9 rfl hr_11 dX11_ofSide_13 ?_
    refine lv_iload_n hx hb dX11_ofSide_16 rfl (lv_at hl 1 rfl) ?_
    obtain ⟨r_13, hr_12, hq⟩ := bk_bd_some hq
    refine bk_callS (rest := []) (As := [.ref b_10, .int x1]) (ro := (some (.long r_13))) (Y1 := Y) (V1 := V) C hH hl.1 (c_X0_totalOfSide hr_12) mc_X0_totalOfSide st_X0_totalOfSide lk_RX11_276 rfl ⟨rfl, rfl⟩ ⟨by decide, by decide⟩ rfl (Nat.le_of_ble_eq_true rfl) dX11_ofSide_17 ⟨by decide, by decide⟩ (fun H locs hH => ?_)
    refine lv_aload_n hx hb dX11_ofSide_20 rfl (lv_at hl 0 rfl) ?_
    refine bk_getr C hH fl_RX11_63 hs_6 rfl hr_8 dX11_ofSide_21 ?_
    refine bk_getr C hH fl_RX11_193 hs_9 rfl hr_11 dX11_ofSide_24 ?_
    obtain ⟨r_15, hr_14, hq⟩ := bk_bd_some hq
    refine bk_callS (rest := [.long r_13]) (As := [.ref b_10]) (ro := (some (.long r_15))) (Y1 := Y) (V1 := V) C hH hl.1 (c_X0_total hr_14) mc_X0_total st_X0_total lk_RX11_264 rfl ⟨rfl, rfl⟩ ⟨by decide, by decide⟩ rfl (Nat.le_of_ble_eq_true rfl) dX11_ofSide_27 ⟨by decide, by decide⟩ (fun H locs hH => ?_)
    obtain ⟨r_17, hr_16, hq⟩ := bk_bd_some hq
    refine bk_callS (rest := []) (As := [.long r_13, .long r_15]) (ro := (some (.int r_17))) (Y1 := Y) (V1 := V) C hH hl.1 (c_X11_ofThousand hr_16) mc_X11_ofThousand st_X11_ofThousand lk_RX11_268 rfl ⟨rfl, rfl⟩ ⟨by decide, by decide⟩ rfl (Nat.le_of_ble_eq_true rfl) dX11_ofSide_30 ⟨by decide, by decide⟩ (fun H locs hH => ?_)
    refine vx_ret ?_
    cases hq
    exact bk_iret C hH dX11_ofSide_33
set_option maxRecDepth 100000 in
theorem c_X11_ofSide {l : Launch} {G : bk_G} {N : Nat} {Y : bk_Lay} {V : bk_Val} (hst : l.stackTraces = false) {a0 : Nat} {x1 : Int32} {out : Nat ⊕ (Int32)} (hq : q_X11_ofSide N Y V a0 x1 = some out) : vx_Met l yX11_ofSide (bk_ws yX11_ofSide cX11_ofSide 2 (some FieldType.int)) rm_X11_ofSide (bk_Pc G [.ref a0, .int x1] Y V) (bk_QX (fun (o : Int32) => bk_Q G (some (.int o)) Y V) out) (bk_XC G Y V out) 1 6 (bk_A G) :=
  bk_metx (by decide) (Nat.le_of_ble_eq_true rfl) (fun p e s m args below meth c ls C hT9 hH hl => w_X11_ofSide C hst hT9 _ _ _ _ _ _ _ hl hH hq)

def rm_X11_which : Room := bk_rm 9 1 6 220
set_option maxRecDepth 100000 in
set_option maxHeartbeats 4000000 in
theorem w_X11_which_79 {XC : String → State → State → Prop} (C : bk_C G p s m args meth c cX11_which RX11 7 (some FieldType.int)) (hst : l.stackTraces = false) (hT9 : ∀ x ∈ c.exceptionTable.toList, False) (k18 : bk_Val → Nat → Int32 → Int32 → Int32 → Int32 → Int32 → Int32 → Option (Nat ⊕ (Int32 × bk_Val))) (i18 : ∀ (V : bk_Val) (a0 : Nat) (x1 : Int32) (x2 : Int32) (x3 : Int32) (x4 : Int32) (x5 : Int32) (x6 : Int32) (H : Heap) (locs : List Loc) (ls : Array Slot) (out : Nat ⊕ (Int32 × bk_Val)), lv_has ls 7 [(0, .ref a0), (1, .int x1), (2, .int x2), (3, .int x3), (4, .int x4), (5, .int x5), (6, .int x6)] → bk_H G Y V s.heap H locs → k18 V a0 x1 x2 x3 x4 x5 x6 = some out → W p l e rm_X11_which s m args below meth c H locs 1 6 (vx_MQ below (bk_QX (fun (o : Int32 × bk_Val) => bk_Q G (some (.int o.1)) Y o.2) out) XC args s 1 6 (bk_A G)) (F0 m 18 ls [])) : ∀ (V : bk_Val) (a0 : Nat) (x1 : Int32) (x2 : Int32) (x3 : Int32) (x4 : Int32) (x5 : Int32) (x6 : Int32) (H : Heap) (locs : List Loc) (ls : Array Slot) (out : Nat ⊕ (Int32 × bk_Val)), lv_has ls 7 [(0, .ref a0), (1, .int x1), (2, .int x2), (3, .int x3), (4, .int x4), (5, .int x5), (6, .int x6)] → bk_H G Y V s.heap H locs → q_X11_which_79 N Y k18 V a0 x1 x2 x3 x4 x5 x6 = some out → W p l e rm_X11_which s m args below meth c H locs 1 6 (vx_MQ below (bk_QX (fun (o : Int32 × bk_Val) => bk_Q G (some (.int o.1)) Y o.2) out) XC args s 1 6 (bk_A G)) (F0 m 79 ls []) := by
  have hx := C.1
  have hb := C.2.1
  intro V a0 x1 x2 x3 x4 x5 x6 H locs ls out hl hH hq
  unfold q_X11_which_79 at hq
  refine lv_iinc (v := (x6 + 1)) (lv' := [(6, .int (x6 + 1)), (0, .ref a0), (1, .int x1), (2, .int x2), (3, .int x3), (4, .int x4), (5, .int x5)]) hx hb dX11_which_79 hl (k := 6) rfl rfl (by decide) rfl (fun ls hl => ?_)
  refine lv_goto (tgt := 18) hx hb dX11_which_82 (by decide) ?_
  exact i18 _ _ _ _ _ _ _ _ _ _ _ _ (lv_sub hl [1, 2, 3, 4, 5, 6, 0] rfl) hH hq

set_option maxRecDepth 100000 in
set_option maxHeartbeats 4000000 in
theorem w_X11_which_77 {XC : String → State → State → Prop} (C : bk_C G p s m args meth c cX11_which RX11 7 (some FieldType.int)) (hst : l.stackTraces = false) (hT9 : ∀ x ∈ c.exceptionTable.toList, False) (k18 : bk_Val → Nat → Int32 → Int32 → Int32 → Int32 → Int32 → Int32 → Option (Nat ⊕ (Int32 × bk_Val))) (i18 : ∀ (V : bk_Val) (a0 : Nat) (x1 : Int32) (x2 : Int32) (x3 : Int32) (x4 : Int32) (x5 : Int32) (x6 : Int32) (H : Heap) (locs : List Loc) (ls : Array Slot) (out : Nat ⊕ (Int32 × bk_Val)), lv_has ls 7 [(0, .ref a0), (1, .int x1), (2, .int x2), (3, .int x3), (4, .int x4), (5, .int x5), (6, .int x6)] → bk_H G Y V s.heap H locs → k18 V a0 x1 x2 x3 x4 x5 x6 = some out → W p l e rm_X11_which s m args below meth c H locs 1 6 (vx_MQ below (bk_QX (fun (o : Int32 × bk_Val) => bk_Q G (some (.int o.1)) Y o.2) out) XC args s 1 6 (bk_A G)) (F0 m 18 ls [])) : ∀ (V : bk_Val) (a0 : Nat) (x1 : Int32) (x2 : Int32) (x3 : Int32) (x4 : Int32) (x6 : Int32) (sx0 : Int32) (H : Heap) (locs : List Loc) (ls : Array Slot) (out : Nat ⊕ (Int32 × bk_Val)), lv_has ls 7 [(0, .ref a0), (1, .int x1), (2, .int x2), (3, .int x3), (4, .int x4), (6, .int x6)] → bk_H G Y V s.heap H locs → q_X11_which_77 N Y k18 V a0 x1 x2 x3 x4 x6 sx0 = some out → W p l e rm_X11_which s m args below meth c H locs 1 6 (vx_MQ below (bk_QX (fun (o : Int32 × bk_Val) => bk_Q G (some (.int o.1)) Y o.2) out) XC args s 1 6 (bk_A G)) (F0 m 77 ls [.int sx0]) := by
  have hx := C.1
  have hb := C.2.1
  intro V a0 x1 x2 x3 x4 x6 sx0 H locs ls out hl hH hq
  unfold q_X11_which_77 at hq
  refine lv_istore (lv' := [(5, .int sx0), (0, .ref a0), (1, .int x1), (2, .int x2), (3, .int x3), (4, .int x4), (6, .int x6)]) hx hb dX11_which_77 hl (by decide) rfl (fun ls hl => ?_)
  exact w_X11_which_79 C hst hT9 _ i18 _ _ _ _ _ _ _ _ _ _ _ _ (lv_sub hl [1, 2, 3, 4, 5, 0, 6] rfl) hH hq

set_option maxRecDepth 100000 in
set_option maxHeartbeats 4000000 in
theorem w_X11_which_18 {XC : String → State → State → Prop} (C : bk_C G p s m args meth c cX11_which RX11 7 (some FieldType.int)) (hst : l.stackTraces = false) (hT9 : ∀ x ∈ c.exceptionTable.toList, False) : ∀ (n : Nat), ∀ (V : bk_Val) (a0 : Nat) (x1 : Int32) (x2 : Int32) (x3 : Int32) (x4 : Int32) (x5 : Int32) (x6 : Int32) (H : Heap) (locs : List Loc) (ls : Array Slot) (out : Nat ⊕ (Int32 × bk_Val)), lv_has ls 7 [(0, .ref a0), (1, .int x1), (2, .int x2), (3, .int x3), (4, .int x4), (5, .int x5), (6, .int x6)] → bk_H G Y V s.heap H locs → q_X11_which_18 N Y n V a0 x1 x2 x3 x4 x5 x6 = some out → W p l e rm_X11_which s m args below meth c H locs 1 6 (vx_MQ below (bk_QX (fun (o : Int32 × bk_Val) => bk_Q G (some (.int o.1)) Y o.2) out) XC args s 1 6 (bk_A G)) (F0 m 18 ls []) := by
  have hx := C.1
  have hb := C.2.1
  intro n
  induction n with
  | zero =>
    intro V a0 x1 x2 x3 x4 x5 x6 H locs ls out hl hH hq
    exact nomatch (show (none : Option (Nat ⊕ (Int32 × bk_Val))) = some out from hq)
  | succ n ih =>
    intro V a0 x1 x2 x3 x4 x5 x6 H locs ls out hl hH hq
    unfold q_X11_which_18 at hq
    refine lv_iload hx hb dX11_which_18 (lv_at hl 6 rfl) ?_
    refine lv_aload_n hx hb dX11_which_20 rfl (lv_at hl 0 rfl) ?_
    obtain ⟨hs_1, hq⟩ := bk_ck_some hq
    obtain ⟨b_2, hr_3, hq⟩ := bk_bd_some hq
    refine bk_getr C hH fl_RX11_33 hs_1 rfl hr_3 dX11_which_21 ?_
    obtain ⟨hs_4, hq⟩ := bk_ck_some hq
    obtain ⟨b_5, hr_6, hq⟩ := bk_bd_some hq
    refine bk_getr C hH fl_RX11_121 hs_4 rfl hr_6 dX11_which_24 ?_
    obtain ⟨hs_9, hq⟩ := bk_ck_some hq
    obtain ⟨r_8, hr_7, hq⟩ := bk_bd_some hq
    refine bk_callV (rest := [.int x6]) (As := []) (ro := (some (.int r_8))) (Y1 := Y) (V1 := V) C hH hl.1 (c_X1_all hr_7) mc_X1_all mv_X1_all lk_RX11_211 hs_9 rfl rfl ⟨rfl, rfl⟩ ⟨by decide, by decide⟩ rfl (Nat.le_of_ble_eq_true rfl) dX11_which_27 ⟨by decide, by decide⟩ (fun H locs hH => ?_)
    refine lv_icmp_gt (tgt := 85) hx hb dX11_which_30 (by decide) (fun hc_19 => ?_) (fun hc_19 => ?_)
    · rw [if_pos hc_19] at hq
      refine lv_iload_n hx hb dX11_which_85 rfl (lv_at hl 3 rfl) ?_
      refine lv_if_ne (tgt := 94) hx hb dX11_which_86 (by decide) (fun hc_10 => ?_) (fun hc_10 => ?_)
      · rw [if_neg hc_10] at hq
        refine lv_iload hx hb dX11_which_94 (lv_at hl 5 rfl) ?_
        refine vx_ret ?_
        cases hq
        exact bk_iret C hH dX11_which_96
      · rw [if_pos hc_10] at hq
        refine lv_iload hx hb dX11_which_89 (lv_at hl 4 rfl) ?_
        refine lv_goto (tgt := 96) hx hb dX11_which_91 (by decide) ?_
        refine vx_ret ?_
        cases hq
        exact bk_iret C hH dX11_which_96
    · rw [if_neg hc_19] at hq
      refine lv_aload_n hx hb dX11_which_33 rfl (lv_at hl 0 rfl) ?_
      refine bk_getr C hH fl_RX11_33 hs_1 rfl hr_3 dX11_which_34 ?_
      refine lv_iload hx hb dX11_which_37 (lv_at hl 6 rfl) ?_
      refine lv_aload_n hx hb dX11_which_39 rfl (lv_at hl 0 rfl) ?_
      obtain ⟨b_11, hr_12, hq⟩ := bk_bd_some hq
      refine bk_getr C hH fl_RX11_63 hs_1 rfl hr_12 dX11_which_40 ?_
      obtain ⟨hs_13, hq⟩ := bk_ck_some hq
      refine bk_geti C hH fl_RX11_144 hs_13 rfl dX11_which_43 ?_
      refine lv_aload_n hx hb dX11_which_46 rfl (lv_at hl 0 rfl) ?_
      refine bk_getr C hH fl_RX11_63 hs_1 rfl hr_12 dX11_which_47 ?_
      refine bk_geti C hH fl_RX11_147 hs_13 rfl dX11_which_50 ?_
      refine lv_iload_n hx hb dX11_which_53 rfl (lv_at hl 2 rfl) ?_
      obtain ⟨r_15, V_16, hr_14, hq⟩ := bk_bd2_some hq
      refine bk_callV (rest := []) (As := [.int x6, .int (bk_rI V b_11 1), .int (bk_rI V b_11 2), .int x2]) (ro := (some (.int r_15))) (Y1 := Y) (V1 := V_16) C hH hl.1 (c_X5_goneBy hr_14) mc_X5_goneBy mv_X5_goneBy lk_RX11_185 hs_4 rfl rfl ⟨rfl, rfl⟩ ⟨by decide, by decide⟩ rfl (Nat.le_of_ble_eq_true rfl) dX11_which_54 ⟨by decide, by decide⟩ (fun H locs hH => ?_)
      refine lv_iload_n hx hb dX11_which_57 rfl (lv_at hl 1 rfl) ?_
      refine lv_icmp_ne (tgt := 79) hx hb dX11_which_58 (by decide) (fun hc_18 => ?_) (fun hc_18 => ?_)
      · rw [if_neg hc_18] at hq
        exact w_X11_which_79 C hst hT9 _ ih _ _ _ _ _ _ _ _ _ _ _ _ (lv_sub hl [0, 1, 2, 3, 4, 5, 6] rfl) hH hq
      · rw [if_pos hc_18] at hq
        refine lv_iinc (v := (x4 + 1)) (lv' := [(4, .int (x4 + 1)), (0, .ref a0), (1, .int x1), (2, .int x2), (3, .int x3), (5, .int x5), (6, .int x6)]) hx hb dX11_which_61 hl (k := 4) rfl rfl (by decide) rfl (fun ls hl => ?_)
        refine lv_iload hx hb dX11_which_64 (lv_at hl 5 rfl) ?_
        refine lv_iconst (v := (-1)) hx hb dX11_which_66 (by decide) ?_
        refine lv_icmp_ne (tgt := 75) hx hb dX11_which_67 (by decide) (fun hc_17 => ?_) (fun hc_17 => ?_)
        · rw [if_neg hc_17] at hq
          refine lv_iload hx hb dX11_which_75 (lv_at hl 5 rfl) ?_
          exact w_X11_which_77 C hst hT9 _ ih _ _ _ _ _ _ _ _ _ _ _ _ (lv_sub hl [1, 2, 3, 4, 0, 6] rfl) hH hq
        · rw [if_pos hc_17] at hq
          refine lv_iload hx hb dX11_which_70 (lv_at hl 6 rfl) ?_
          refine lv_goto (tgt := 77) hx hb dX11_which_72 (by decide) ?_
          exact w_X11_which_77 C hst hT9 _ ih _ _ _ _ _ _ _ _ _ _ _ _ (lv_sub hl [1, 2, 3, 4, 0, 6] rfl) hH hq

set_option maxRecDepth 100000 in
set_option maxHeartbeats 4000000 in
theorem w_X11_which (C : bk_C G p s m args meth c cX11_which RX11 7 (some FieldType.int)) (hst : l.stackTraces = false) (hT9 : ∀ x ∈ c.exceptionTable.toList, False) : ∀ (V : bk_Val) (a0 : Nat) (x1 : Int32) (x2 : Int32) (x3 : Int32) (H : Heap) (locs : List Loc) (ls : Array Slot) (out : Nat ⊕ (Int32 × bk_Val)), lv_has ls 7 [(0, .ref a0), (1, .int x1), (2, .int x2), (3, .int x3)] → bk_H G Y V s.heap H locs → q_X11_which N Y V a0 x1 x2 x3 = some out → W p l e rm_X11_which s m args below meth c H locs 0 0 (vx_MQ below (bk_QX (fun (o : Int32 × bk_Val) => bk_Q G (some (.int o.1)) Y o.2) out) (bk_XC G Y V out) args s 1 6 (bk_A G)) (F0 m 0 ls []) := by
  have hx := C.1
  have hb := C.2.1
  intro V a0 x1 x2 x3 H locs ls out hl hH hq
  unfold q_X11_which at hq
  refine lv_iload_n hx hb dX11_which_0 rfl (lv_at hl 3 rfl) ?_
  refine lv_iconst (v := 0) hx hb dX11_which_1 (by decide) ?_
  refine lv_iconst (v := 1) hx hb dX11_which_2 (by decide) ?_
  obtain ⟨r_21, hr_20, hq⟩ := bk_bd_some hq
  refine bk_callS (rest := []) (As := [.int x3, .int 0, .int 1]) (ro := (some (.int r_21))) (Y1 := Y) (V1 := V) C hH hl.1 (c_X11_isWithin hr_20) mc_X11_isWithin st_X11_isWithin lk_RX11_78 rfl ⟨rfl, rfl⟩ ⟨by decide, by decide⟩ rfl (Nat.le_of_ble_eq_true rfl) dX11_which_3 ⟨by decide, by decide⟩ (fun H locs hH => ?_)
  rcases bk_bdx_cases hq with ⟨x9_23, hr_22, ho_24⟩ | ⟨u6, hr_22, hq⟩
  · exact bk_callSt (rest := []) (As := [.int r_21]) (e9 := x9_23) C hT9 hH hl.1 (c_X11_needElement hst hr_22) ho_24 mc_X11_needElement st_X11_needElement ml_RX11_214 rfl ⟨rfl, rfl⟩ ⟨by decide, by decide⟩ rfl (Nat.le_of_ble_eq_true rfl) dX11_which_6 ⟨by decide, by decide⟩ (by decide) (by decide)
  · refine bk_callSr (rest := []) (As := [.int r_21]) (o1 := u6) (ro := none) (Y1 := Y) (V1 := V) rfl C hH hl.1 (c_X11_needElement hst hr_22) mc_X11_needElement st_X11_needElement ml_RX11_214 rfl ⟨rfl, rfl⟩ ⟨by decide, by decide⟩ rfl (Nat.le_of_ble_eq_true rfl) dX11_which_6 ⟨by decide, by decide⟩ (fun H locs hH => ?_)
    refine W.widen (k := 1) (n := 6) (by decide) (by decide) ?_
    refine lv_iconst (v := 0) hx hb dX11_which_9 (by decide) ?_
    refine lv_istore (lv' := [(4, .int 0), (0, .ref a0), (1, .int x1), (2, .int x2), (3, .int x3)]) hx hb dX11_which_10 hl (by decide) rfl (fun ls hl => ?_)
    refine lv_iconst (v := (-1)) hx hb dX11_which_12 (by decide) ?_
    refine lv_istore (lv' := [(5, .int (-1)), (4, .int 0), (0, .ref a0), (1, .int x1), (2, .int x2), (3, .int x3)]) hx hb dX11_which_13 hl (by decide) rfl (fun ls hl => ?_)
    refine lv_iconst (v := 0) hx hb dX11_which_15 (by decide) ?_
    refine lv_istore (lv' := [(6, .int 0), (5, .int (-1)), (4, .int 0), (0, .ref a0), (1, .int x1), (2, .int x2), (3, .int x3)]) hx hb dX11_which_16 hl (by decide) rfl (fun ls hl => ?_)
    exact w_X11_which_18 C hst hT9 _ _ _ _ _ _ _ _ _ _ _ _ _ (lv_sub hl [3, 4, 5, 6, 2, 1, 0] rfl) hH hq
set_option maxRecDepth 100000 in
theorem c_X11_which {l : Launch} {G : bk_G} {N : Nat} {Y : bk_Lay} {V : bk_Val} (hst : l.stackTraces = false) {a0 : Nat} {x1 : Int32} {x2 : Int32} {x3 : Int32} {out : Nat ⊕ (Int32 × bk_Val)} (hq : q_X11_which N Y V a0 x1 x2 x3 = some out) : vx_Met l yX11_which (bk_ws yX11_which cX11_which 7 (some FieldType.int)) rm_X11_which (bk_Pc G [.ref a0, .int x1, .int x2, .int x3] Y V) (bk_QX (fun (o : Int32 × bk_Val) => bk_Q G (some (.int o.1)) Y o.2) out) (bk_XC G Y V out) 1 6 (bk_A G) :=
  bk_metx (by decide) (Nat.le_of_ble_eq_true rfl) (fun p e s m args below meth c ls C hT9 hH hl => w_X11_which C hst hT9 _ _ _ _ _ _ _ _ _ hl hH hq)

def rm_X11_rides : Room := bk_rm 9 1 6 220
set_option maxRecDepth 100000 in
set_option maxHeartbeats 4000000 in
theorem w_X11_rides_24 {XC : String → State → State → Prop} (C : bk_C G p s m args meth c cX11_rides RX11 5 (some FieldType.int)) (hst : l.stackTraces = false) (hT9 : ∀ x ∈ c.exceptionTable.toList, False) : ∀ (n : Nat), ∀ (V : bk_Val) (a0 : Nat) (x2 : Int32) (x3 : Int32) (x4 : Int32) (H : Heap) (locs : List Loc) (ls : Array Slot) (out : Nat ⊕ (Int32 × bk_Val)), lv_has ls 5 [(0, .ref a0), (2, .int x2), (3, .int x3), (4, .int x4)] → bk_H G Y V s.heap H locs → q_X11_rides_24 N Y n V a0 x2 x3 x4 = some out → W p l e rm_X11_rides s m args below meth c H locs 1 6 (vx_MQ below (bk_QX (fun (o : Int32 × bk_Val) => bk_Q G (some (.int o.1)) Y o.2) out) XC args s 1 6 (bk_A G)) (F0 m 24 ls []) := by
  have hx := C.1
  have hb := C.2.1
  intro n
  induction n with
  | zero =>
    intro V a0 x2 x3 x4 H locs ls out hl hH hq
    exact nomatch (show (none : Option (Nat ⊕ (Int32 × bk_Val))) = some out from hq)
  | succ n ih =>
    intro V a0 x2 x3 x4 H locs ls out hl hH hq
    unfold q_X11_rides_24 at hq
    refine lv_iload hx hb dX11_rides_24 (lv_at hl 3 rfl) ?_
    refine lv_bipush (v := 100) hx hb dX11_rides_26 (by decide) ?_
    refine lv_icmp_ge (tgt := 78) hx hb dX11_rides_28 (by decide) (fun hc_15 => ?_) (fun hc_15 => ?_)
    · rw [if_pos hc_15] at hq
      refine lv_bipush (v := 100) hx hb dX11_rides_78 (by decide) ?_
      refine vx_ret ?_
      cases hq
      exact bk_iret C hH dX11_rides_80
    · rw [if_neg hc_15] at hq
      refine lv_aload_n hx hb dX11_rides_31 rfl (lv_at hl 0 rfl) ?_
      obtain ⟨hs_1, hq⟩ := bk_ck_some hq
      obtain ⟨b_2, hr_3, hq⟩ := bk_bd_some hq
      refine bk_getr C hH fl_RX11_33 hs_1 rfl hr_3 dX11_rides_32 ?_
      refine lv_iload_n hx hb dX11_rides_35 rfl (lv_at hl 1 rfl) ?_
      refine lv_iload_n hx hb dX11_rides_36 rfl (lv_at hl 2 rfl) ?_
      refine lv_aload_n hx hb dX11_rides_37 rfl (lv_at hl 0 rfl) ?_
      obtain ⟨b_4, hr_5, hq⟩ := bk_bd_some hq
      refine bk_getr C hH fl_RX11_63 hs_1 rfl hr_5 dX11_rides_38 ?_
      obtain ⟨hs_6, hq⟩ := bk_ck_some hq
      refine bk_geti C hH fl_RX11_147 hs_6 rfl dX11_rides_41 ?_
      refine lv_iload hx hb dX11_rides_44 (lv_at hl 3 rfl) ?_
      refine lv_iload_n hx hb dX11_rides_46 rfl (lv_at hl 2 rfl) ?_
      refine lv_imul hx hb dX11_rides_47 ?_
      refine lv_iadd hx hb dX11_rides_48 ?_
      obtain ⟨hs_10, hq⟩ := bk_ck_some hq
      obtain ⟨r_8, V_9, hr_7, hq⟩ := bk_bd2_some hq
      refine bk_callV (rest := []) (As := [.int x2, .int x3, .int ((bk_rI V b_4 2) + (x4 * x3))]) (ro := (some (.int r_8))) (Y1 := Y) (V1 := V_9) C hH hl.1 (c_X5_lasts hr_7) mc_X5_lasts mv_X5_lasts lk_RX11_373 hs_10 rfl rfl ⟨rfl, rfl⟩ ⟨by decide, by decide⟩ rfl (Nat.le_of_ble_eq_true rfl) dX11_rides_49 ⟨by decide, by decide⟩ (fun H locs hH => ?_)
      refine lv_if_ne (tgt := 58) hx hb dX11_rides_52 (by decide) (fun hc_14 => ?_) (fun hc_14 => ?_)
      · rw [if_neg hc_14] at hq
        refine lv_aload_n hx hb dX11_rides_58 rfl (lv_at hl 0 rfl) ?_
        refine bk_getr C hH fl_RX11_33 hs_1 rfl hr_3 dX11_rides_59 ?_
        refine lv_iload_n hx hb dX11_rides_62 rfl (lv_at hl 1 rfl) ?_
        obtain ⟨r_12, hr_11, hq⟩ := bk_bd_some hq
        refine bk_callV (rest := []) (As := [.int x2]) (ro := (some (.int r_12))) (Y1 := Y) (V1 := V_9) C hH hl.1 (c_X5_leaksAlikeEachMinute hr_11) mc_X5_leaksAlikeEachMinute mv_X5_leaksAlikeEachMinute lk_RX11_217 hs_10 rfl rfl ⟨rfl, rfl⟩ ⟨by decide, by decide⟩ rfl (Nat.le_of_ble_eq_true rfl) dX11_rides_63 ⟨by decide, by decide⟩ (fun H locs hH => ?_)
        refine lv_if_eq (tgt := 72) hx hb dX11_rides_66 (by decide) (fun hc_13 => ?_) (fun hc_13 => ?_)
        · rw [if_pos hc_13] at hq
          refine lv_iinc (v := (x4 + 1)) (lv' := [(4, .int (x4 + 1)), (0, .ref a0), (2, .int x2), (3, .int x3)]) hx hb dX11_rides_72 hl (k := 3) rfl rfl (by decide) rfl (fun ls hl => ?_)
          refine lv_goto (tgt := 24) hx hb dX11_rides_75 (by decide) ?_
          exact ih _ _ _ _ _ _ _ _ _ (lv_sub hl [1, 2, 3, 0] rfl) hH hq
        · rw [if_neg hc_13] at hq
          refine lv_bipush (v := 100) hx hb dX11_rides_69 (by decide) ?_
          refine vx_ret ?_
          cases hq
          exact bk_iret C hH dX11_rides_71
      · rw [if_pos hc_14] at hq
        refine lv_iload hx hb dX11_rides_55 (lv_at hl 3 rfl) ?_
        refine vx_ret ?_
        cases hq
        exact bk_iret C hH dX11_rides_57

set_option maxRecDepth 100000 in
set_option maxHeartbeats 4000000 in
theorem w_X11_rides (C : bk_C G p s m args meth c cX11_rides RX11 5 (some FieldType.int)) (hst : l.stackTraces = false) (hT9 : ∀ x ∈ c.exceptionTable.toList, False) : ∀ (V : bk_Val) (a0 : Nat) (x1 : Int32) (H : Heap) (locs : List Loc) (ls : Array Slot) (out : Nat ⊕ (Int32 × bk_Val)), lv_has ls 5 [(0, .ref a0), (1, .int x1)] → bk_H G Y V s.heap H locs → q_X11_rides N Y V a0 x1 = some out → W p l e rm_X11_rides s m args below meth c H locs 0 0 (vx_MQ below (bk_QX (fun (o : Int32 × bk_Val) => bk_Q G (some (.int o.1)) Y o.2) out) (bk_XC G Y V out) args s 1 6 (bk_A G)) (F0 m 0 ls []) := by
  have hx := C.1
  have hb := C.2.1
  intro V a0 x1 H locs ls out hl hH hq
  unfold q_X11_rides at hq
  refine lv_iload_n hx hb dX11_rides_0 rfl (lv_at hl 1 rfl) ?_
  refine lv_iconst (v := 1) hx hb dX11_rides_1 (by decide) ?_
  refine lv_bipush (v := 60) hx hb dX11_rides_2 (by decide) ?_
  obtain ⟨r_17, hr_16, hq⟩ := bk_bd_some hq
  refine bk_callS (rest := []) (As := [.int x1, .int 1, .int 60]) (ro := (some (.int r_17))) (Y1 := Y) (V1 := V) C hH hl.1 (c_X11_isWithin hr_16) mc_X11_isWithin st_X11_isWithin lk_RX11_78 rfl ⟨rfl, rfl⟩ ⟨by decide, by decide⟩ rfl (Nat.le_of_ble_eq_true rfl) dX11_rides_4 ⟨by decide, by decide⟩ (fun H locs hH => ?_)
  rcases bk_bdx_cases hq with ⟨x9_19, hr_18, ho_20⟩ | ⟨u7, hr_18, hq⟩
  · exact bk_callSt (rest := []) (As := [.int r_17]) (e9 := x9_19) C hT9 hH hl.1 (c_X11_needArgument hst hr_18) ho_20 mc_X11_needArgument st_X11_needArgument ml_RX11_82 rfl ⟨rfl, rfl⟩ ⟨by decide, by decide⟩ rfl (Nat.le_of_ble_eq_true rfl) dX11_rides_7 ⟨by decide, by decide⟩ (by decide) (by decide)
  · refine bk_callSr (rest := []) (As := [.int r_17]) (o1 := u7) (ro := none) (Y1 := Y) (V1 := V) rfl C hH hl.1 (c_X11_needArgument hst hr_18) mc_X11_needArgument st_X11_needArgument ml_RX11_82 rfl ⟨rfl, rfl⟩ ⟨by decide, by decide⟩ rfl (Nat.le_of_ble_eq_true rfl) dX11_rides_7 ⟨by decide, by decide⟩ (fun H locs hH => ?_)
    refine W.widen (k := 1) (n := 6) (by decide) (by decide) ?_
    refine lv_aload_n hx hb dX11_rides_10 rfl (lv_at hl 0 rfl) ?_
    refine lv_iconst (v := 1) hx hb dX11_rides_11 (by decide) ?_
    obtain ⟨hs_23, hq⟩ := bk_ck_some hq
    obtain ⟨r_22, hr_21, hq⟩ := bk_bd_some hq
    refine bk_callV (rest := []) (As := [.int 1]) (ro := (some (.int r_22))) (Y1 := Y) (V1 := V) C hH hl.1 (c_X11_leakingHoles hr_21) mc_X11_leakingHoles mv_X11_leakingHoles lk_RX11_181 hs_23 rfl rfl ⟨rfl, rfl⟩ ⟨by decide, by decide⟩ rfl (Nat.le_of_ble_eq_true rfl) dX11_rides_12 ⟨by decide, by decide⟩ (fun H locs hH => ?_)
    refine lv_istore_n (lv' := [(2, .int r_22), (0, .ref a0), (1, .int x1)]) hx hb dX11_rides_15 rfl hl (by decide) rfl (fun ls hl => ?_)
    refine lv_bipush (v := 6) hx hb dX11_rides_16 (by decide) ?_
    refine lv_iload_n hx hb dX11_rides_18 rfl (lv_at hl 2 rfl) ?_
    refine lv_imul hx hb dX11_rides_19 ?_
    refine lv_istore_n (lv' := [(3, .int (6 * x1)), (2, .int r_22), (0, .ref a0), (1, .int x1)]) hx hb dX11_rides_20 rfl hl (by decide) rfl (fun ls hl => ?_)
    refine lv_iconst (v := 0) hx hb dX11_rides_21 (by decide) ?_
    refine lv_istore (lv' := [(4, .int 0), (3, .int (6 * x1)), (2, .int r_22), (0, .ref a0), (1, .int x1)]) hx hb dX11_rides_22 hl (by decide) rfl (fun ls hl => ?_)
    exact w_X11_rides_24 C hst hT9 _ _ _ _ _ _ _ _ _ _ (lv_sub hl [3, 2, 1, 0] rfl) hH hq
set_option maxRecDepth 100000 in
theorem c_X11_rides {l : Launch} {G : bk_G} {N : Nat} {Y : bk_Lay} {V : bk_Val} (hst : l.stackTraces = false) {a0 : Nat} {x1 : Int32} {out : Nat ⊕ (Int32 × bk_Val)} (hq : q_X11_rides N Y V a0 x1 = some out) : vx_Met l yX11_rides (bk_ws yX11_rides cX11_rides 5 (some FieldType.int)) rm_X11_rides (bk_Pc G [.ref a0, .int x1] Y V) (bk_QX (fun (o : Int32 × bk_Val) => bk_Q G (some (.int o.1)) Y o.2) out) (bk_XC G Y V out) 1 6 (bk_A G) :=
  bk_metx (by decide) (Nat.le_of_ble_eq_true rfl) (fun p e s m args below meth c ls C hT9 hH hl => w_X11_rides C hst hT9 _ _ _ _ _ _ _ hl hH hq)

def rm_X11_planned : Room := bk_rm 9 1 6 220
set_option maxRecDepth 100000 in
set_option maxHeartbeats 4000000 in
theorem w_X11_planned_20 (C : bk_C G p s m args meth c cX11_planned RX11 2 (some FieldType.int)) (hst : l.stackTraces = false) (hT9 : ∀ x ∈ c.exceptionTable.toList, False) : ∀ (V : bk_Val) (a0 : Nat) (x1 : Int32) (sx0 : Int32) (H : Heap) (locs : List Loc) (ls : Array Slot) (out : Nat ⊕ (Int32)), lv_has ls 2 [(0, .ref a0), (1, .int x1)] → bk_H G Y V s.heap H locs → q_X11_planned_20 N Y V a0 x1 sx0 = some out → W p l e rm_X11_planned s m args below meth c H locs 0 0 (vx_MQ below (bk_QX (fun (o : Int32) => bk_Q G (some (.int o)) Y V) out) (bk_XC G Y V out) args s 1 6 (bk_A G)) (F0 m 20 ls [.int sx0]) := by
  have hx := C.1
  have hb := C.2.1
  intro V a0 x1 sx0 H locs ls out hl hH hq
  unfold q_X11_planned_20 at hq
  rcases bk_bdx_cases hq with ⟨x9_2, hr_1, ho_3⟩ | ⟨u20, hr_1, hq⟩
  · exact bk_callSt (rest := []) (As := [.int sx0]) (e9 := x9_2) C hT9 hH hl.1 (c_X11_needElement hst hr_1) ho_3 mc_X11_needElement st_X11_needElement ml_RX11_214 rfl ⟨rfl, rfl⟩ ⟨by decide, by decide⟩ rfl (Nat.le_of_ble_eq_true rfl) dX11_planned_20 ⟨by decide, by decide⟩ (by decide) (by decide)
  · refine bk_callSr (rest := []) (As := [.int sx0]) (o1 := u20) (ro := none) (Y1 := Y) (V1 := V) rfl C hH hl.1 (c_X11_needElement hst hr_1) mc_X11_needElement st_X11_needElement ml_RX11_214 rfl ⟨rfl, rfl⟩ ⟨by decide, by decide⟩ rfl (Nat.le_of_ble_eq_true rfl) dX11_planned_20 ⟨by decide, by decide⟩ (fun H locs hH => ?_)
    refine W.widen (k := 1) (n := 6) (by decide) (by decide) ?_
    refine lv_aload_n hx hb dX11_planned_23 rfl (lv_at hl 0 rfl) ?_
    obtain ⟨hs_4, hq⟩ := bk_ck_some hq
    obtain ⟨b_5, hr_6, hq⟩ := bk_bd_some hq
    refine bk_getr C hH fl_RX11_23 hs_4 rfl hr_6 dX11_planned_24 ?_
    refine lv_iload_n hx hb dX11_planned_27 rfl (lv_at hl 1 rfl) ?_
    obtain ⟨ha_7, hq⟩ := bk_ck_some hq
    obtain ⟨hi_8, hq⟩ := bk_ck_some hq
    refine bk_iald C hH (bk_arr ha_7) (bk_in_vp hi_8) dX11_planned_28 ?_
    refine vx_ret ?_
    cases hq
    exact bk_iret C hH dX11_planned_29

set_option maxRecDepth 100000 in
set_option maxHeartbeats 4000000 in
theorem w_X11_planned_19 (C : bk_C G p s m args meth c cX11_planned RX11 2 (some FieldType.int)) (hst : l.stackTraces = false) (hT9 : ∀ x ∈ c.exceptionTable.toList, False) : ∀ (V : bk_Val) (a0 : Nat) (x1 : Int32) (H : Heap) (locs : List Loc) (ls : Array Slot) (out : Nat ⊕ (Int32)), lv_has ls 2 [(0, .ref a0), (1, .int x1)] → bk_H G Y V s.heap H locs → q_X11_planned_19 N Y V a0 x1 = some out → W p l e rm_X11_planned s m args below meth c H locs 0 0 (vx_MQ below (bk_QX (fun (o : Int32) => bk_Q G (some (.int o)) Y V) out) (bk_XC G Y V out) args s 1 6 (bk_A G)) (F0 m 19 ls []) := by
  have hx := C.1
  have hb := C.2.1
  intro V a0 x1 H locs ls out hl hH hq
  unfold q_X11_planned_19 at hq
  refine lv_iconst (v := 0) hx hb dX11_planned_19 (by decide) ?_
  exact w_X11_planned_20 C hst hT9 _ _ _ _ _ _ _ _ (lv_sub hl [0, 1] rfl) hH hq

set_option maxRecDepth 100000 in
set_option maxHeartbeats 4000000 in
theorem w_X11_planned (C : bk_C G p s m args meth c cX11_planned RX11 2 (some FieldType.int)) (hst : l.stackTraces = false) (hT9 : ∀ x ∈ c.exceptionTable.toList, False) : ∀ (V : bk_Val) (a0 : Nat) (x1 : Int32) (H : Heap) (locs : List Loc) (ls : Array Slot) (out : Nat ⊕ (Int32)), lv_has ls 2 [(0, .ref a0), (1, .int x1)] → bk_H G Y V s.heap H locs → q_X11_planned N Y V a0 x1 = some out → W p l e rm_X11_planned s m args below meth c H locs 0 0 (vx_MQ below (bk_QX (fun (o : Int32) => bk_Q G (some (.int o)) Y V) out) (bk_XC G Y V out) args s 1 6 (bk_A G)) (F0 m 0 ls []) := by
  have hx := C.1
  have hb := C.2.1
  intro V a0 x1 H locs ls out hl hH hq
  unfold q_X11_planned at hq
  refine lv_aload_n hx hb dX11_planned_0 rfl (lv_at hl 0 rfl) ?_
  obtain ⟨hs_9, hq⟩ := bk_ck_some hq
  refine bk_geti C hH fl_RX11_108 hs_9 rfl dX11_planned_1 ?_
  refine lv_if_eq (tgt := 19) hx hb dX11_planned_4 (by decide) (fun hc_13 => ?_) (fun hc_13 => ?_)
  · rw [if_pos hc_13] at hq
    exact w_X11_planned_19 C hst hT9 _ _ _ _ _ _ _ (lv_sub hl [0, 1] rfl) hH hq
  · rw [if_neg hc_13] at hq
    refine lv_aload_n hx hb dX11_planned_7 rfl (lv_at hl 0 rfl) ?_
    refine lv_iload_n hx hb dX11_planned_8 rfl (lv_at hl 1 rfl) ?_
    obtain ⟨r_11, hr_10, hq⟩ := bk_bd_some hq
    refine bk_callV (rest := []) (As := [.int x1]) (ro := (some (.int r_11))) (Y1 := Y) (V1 := V) C hH hl.1 (c_X11_isInch hr_10) mc_X11_isInch mv_X11_isInch lk_RX11_220 hs_9 rfl rfl ⟨rfl, rfl⟩ ⟨by decide, by decide⟩ rfl (Nat.le_of_ble_eq_true rfl) dX11_planned_9 ⟨by decide, by decide⟩ (fun H locs hH => ?_)
    refine lv_if_eq (tgt := 19) hx hb dX11_planned_12 (by decide) (fun hc_12 => ?_) (fun hc_12 => ?_)
    · rw [if_pos hc_12] at hq
      exact w_X11_planned_19 C hst hT9 _ _ _ _ _ _ _ (lv_sub hl [0, 1] rfl) hH hq
    · rw [if_neg hc_12] at hq
      refine lv_iconst (v := 1) hx hb dX11_planned_15 (by decide) ?_
      refine lv_goto (tgt := 20) hx hb dX11_planned_16 (by decide) ?_
      exact w_X11_planned_20 C hst hT9 _ _ _ _ _ _ _ _ (lv_sub hl [0, 1] rfl) hH hq
set_option maxRecDepth 100000 in
theorem c_X11_planned {l : Launch} {G : bk_G} {N : Nat} {Y : bk_Lay} {V : bk_Val} (hst : l.stackTraces = false) {a0 : Nat} {x1 : Int32} {out : Nat ⊕ (Int32)} (hq : q_X11_planned N Y V a0 x1 = some out) : vx_Met l yX11_planned (bk_ws yX11_planned cX11_planned 2 (some FieldType.int)) rm_X11_planned (bk_Pc G [.ref a0, .int x1] Y V) (bk_QX (fun (o : Int32) => bk_Q G (some (.int o)) Y V) out) (bk_XC G Y V out) 1 6 (bk_A G) :=
  bk_metx (by decide) (Nat.le_of_ble_eq_true rfl) (fun p e s m args below meth c ls C hT9 hH hl => w_X11_planned C hst hT9 _ _ _ _ _ _ _ hl hH hq)

def rm_X11_next : Room := bk_rm 9 1 6 220
set_option maxRecDepth 100000 in
set_option maxHeartbeats 4000000 in
theorem w_X11_next (C : bk_C G p s m args meth c cX11_next RX11 2 (some FieldType.int)) (hst : l.stackTraces = false) (hT9 : ∀ x ∈ c.exceptionTable.toList, False) : ∀ (Y : bk_Lay) (V : bk_Val) (a0 : Nat) (x1 : Int32) (H : Heap) (locs : List Loc) (ls : Array Slot) (out : Nat ⊕ (Int32 × bk_Lay × bk_Val)), lv_has ls 2 [(0, .ref a0), (1, .int x1)] → bk_H G Y V s.heap H locs → q_X11_next N Y V a0 x1 = some out → W p l e rm_X11_next s m args below meth c H locs 0 0 (vx_MQ below (bk_QX (fun (o : Int32 × bk_Lay × bk_Val) => bk_Q G (some (.int o.1)) o.2.1 o.2.2) out) (bk_XC G Y V out) args s 1 6 (bk_A G)) (F0 m 0 ls []) := by
  have hx := C.1
  have hb := C.2.1
  intro Y V a0 x1 H locs ls out hl hH hq
  unfold q_X11_next at hq
  refine lv_iload_n hx hb dX11_next_0 rfl (lv_at hl 1 rfl) ?_
  refine lv_iconst (v := 0) hx hb dX11_next_1 (by decide) ?_
  refine lv_iconst (v := 2) hx hb dX11_next_2 (by decide) ?_
  obtain ⟨r_2, hr_1, hq⟩ := bk_bd_some hq
  refine bk_callS (rest := []) (As := [.int x1, .int 0, .int 2]) (ro := (some (.int r_2))) (Y1 := Y) (V1 := V) C hH hl.1 (c_X11_isWithin hr_1) mc_X11_isWithin st_X11_isWithin lk_RX11_78 rfl ⟨rfl, rfl⟩ ⟨by decide, by decide⟩ rfl (Nat.le_of_ble_eq_true rfl) dX11_next_3 ⟨by decide, by decide⟩ (fun H locs hH => ?_)
  rcases bk_bdx_cases hq with ⟨x9_4, hr_3, ho_5⟩ | ⟨u6, hr_3, hq⟩
  · exact bk_callSt (rest := []) (As := [.int r_2]) (e9 := x9_4) C hT9 hH hl.1 (c_X11_needElement hst hr_3) ho_5 mc_X11_needElement st_X11_needElement ml_RX11_214 rfl ⟨rfl, rfl⟩ ⟨by decide, by decide⟩ rfl (Nat.le_of_ble_eq_true rfl) dX11_next_6 ⟨by decide, by decide⟩ (by decide) (by decide)
  · refine bk_callSr (rest := []) (As := [.int r_2]) (o1 := u6) (ro := none) (Y1 := Y) (V1 := V) rfl C hH hl.1 (c_X11_needElement hst hr_3) mc_X11_needElement st_X11_needElement ml_RX11_214 rfl ⟨rfl, rfl⟩ ⟨by decide, by decide⟩ rfl (Nat.le_of_ble_eq_true rfl) dX11_next_6 ⟨by decide, by decide⟩ (fun H locs hH => ?_)
    refine W.widen (k := 1) (n := 6) (by decide) (by decide) ?_
    refine lv_iload_n hx hb dX11_next_9 rfl (lv_at hl 1 rfl) ?_
    refine lv_if_ne (tgt := 24) hx hb dX11_next_10 (by decide) (fun hc_33 => ?_) (fun hc_33 => ?_)
    · rw [if_neg hc_33] at hq
      refine lv_aload_n hx hb dX11_next_24 rfl (lv_at hl 0 rfl) ?_
      obtain ⟨hs_9, hq⟩ := bk_ck_some hq
      obtain ⟨Y_7, V_8, hr_6, hq⟩ := bk_bd2_some hq
      refine bk_callV (rest := []) (As := []) (ro := none) (Y1 := Y_7) (V1 := V_8) C hH hl.1 (c_X11_setOut hr_6) mc_X11_setOut mv_X11_setOut lk_RX11_286 hs_9 rfl rfl ⟨rfl, rfl⟩ ⟨by decide, by decide⟩ rfl (Nat.le_of_ble_eq_true rfl) dX11_next_25 ⟨by decide, by decide⟩ (fun H locs hH => ?_)
      refine lv_iload_n hx hb dX11_next_28 rfl (lv_at hl 1 rfl) ?_
      refine lv_iconst (v := 1) hx hb dX11_next_29 (by decide) ?_
      refine lv_icmp_ne (tgt := 44) hx hb dX11_next_30 (by decide) (fun hc_24 => ?_) (fun hc_24 => ?_)
      · rw [if_neg hc_24] at hq
        refine lv_aload_n hx hb dX11_next_44 rfl (lv_at hl 0 rfl) ?_
        obtain ⟨hs_10, hq⟩ := bk_ck_some hq
        obtain ⟨b_11, hr_12, hq⟩ := bk_bd_some hq
        refine bk_getr C hH fl_RX11_19 hs_10 rfl hr_12 dX11_next_45 ?_
        obtain ⟨hs_16, hq⟩ := bk_ck_some hq
        obtain ⟨r_14, V_15, hr_13, hq⟩ := bk_bd2_some hq
        refine bk_callV (rest := []) (As := []) (ro := (some (.int r_14))) (Y1 := Y_7) (V1 := V_15) C hH hl.1 (c_X3_firstStay hr_13) mc_X3_firstStay mv_X3_firstStay lk_RX11_292 hs_16 rfl rfl ⟨rfl, rfl⟩ ⟨by decide, by decide⟩ rfl (Nat.le_of_ble_eq_true rfl) dX11_next_48 ⟨by decide, by decide⟩ (fun H locs hH => ?_)
        refine vx_ret ?_
        cases hq
        exact bk_iret C hH dX11_next_51
      · rw [if_pos hc_24] at hq
        refine lv_aload_n hx hb dX11_next_33 rfl (lv_at hl 0 rfl) ?_
        obtain ⟨hs_17, hq⟩ := bk_ck_some hq
        obtain ⟨b_18, hr_19, hq⟩ := bk_bd_some hq
        refine bk_getr C hH fl_RX11_19 hs_17 rfl hr_19 dX11_next_34 ?_
        refine lv_iconst (v := 0) hx hb dX11_next_37 (by decide) ?_
        obtain ⟨hs_23, hq⟩ := bk_ck_some hq
        obtain ⟨r_21, V_22, hr_20, hq⟩ := bk_bd2_some hq
        refine bk_callV (rest := []) (As := [.int 0]) (ro := (some (.int r_21))) (Y1 := Y_7) (V1 := V_22) C hH hl.1 (c_X3_inchIn hr_20) mc_X3_inchIn mv_X3_inchIn lk_RX11_289 hs_23 rfl rfl ⟨rfl, rfl⟩ ⟨by decide, by decide⟩ rfl (Nat.le_of_ble_eq_true rfl) dX11_next_38 ⟨by decide, by decide⟩ (fun H locs hH => ?_)
        refine lv_goto (tgt := 51) hx hb dX11_next_41 (by decide) ?_
        refine vx_ret ?_
        cases hq
        exact bk_iret C hH dX11_next_51
    · rw [if_pos hc_33] at hq
      refine lv_aload_n hx hb dX11_next_13 rfl (lv_at hl 0 rfl) ?_
      obtain ⟨hs_25, hq⟩ := bk_ck_some hq
      obtain ⟨b_26, hr_27, hq⟩ := bk_bd_some hq
      refine bk_getr C hH fl_RX11_63 hs_25 rfl hr_27 dX11_next_14 ?_
      obtain ⟨hs_28, hq⟩ := bk_ck_some hq
      obtain ⟨b_29, hr_30, hq⟩ := bk_bd_some hq
      refine bk_getr C hH fl_RX11_193 hs_28 rfl hr_30 dX11_next_17 ?_
      obtain ⟨r_32, hr_31, hq⟩ := bk_bd_some hq
      refine bk_callS (rest := []) (As := [.ref b_29]) (ro := (some (.int r_32))) (Y1 := Y) (V1 := V) C hH hl.1 (c_X0_likeliest hr_31) mc_X0_likeliest st_X0_likeliest lk_RX11_283 rfl ⟨rfl, rfl⟩ ⟨by decide, by decide⟩ rfl (Nat.le_of_ble_eq_true rfl) dX11_next_20 ⟨by decide, by decide⟩ (fun H locs hH => ?_)
      refine vx_ret ?_
      cases hq
      exact bk_iret C hH dX11_next_23
set_option maxRecDepth 100000 in
theorem c_X11_next {l : Launch} {G : bk_G} {N : Nat} {Y : bk_Lay} {V : bk_Val} (hst : l.stackTraces = false) {a0 : Nat} {x1 : Int32} {out : Nat ⊕ (Int32 × bk_Lay × bk_Val)} (hq : q_X11_next N Y V a0 x1 = some out) : vx_Met l yX11_next (bk_ws yX11_next cX11_next 2 (some FieldType.int)) rm_X11_next (bk_Pc G [.ref a0, .int x1] Y V) (bk_QX (fun (o : Int32 × bk_Lay × bk_Val) => bk_Q G (some (.int o.1)) o.2.1 o.2.2) out) (bk_XC G Y V out) 1 6 (bk_A G) :=
  bk_metx (by decide) (Nat.le_of_ble_eq_true rfl) (fun p e s m args below meth c ls C hT9 hH hl => w_X11_next C hst hT9 _ _ _ _ _ _ _ _ hl hH hq)

def rm_X11_thorn : Room := bk_rm 4 2 341 94
set_option maxRecDepth 100000 in
set_option maxHeartbeats 4000000 in
theorem w_X11_thorn_79 (C : bk_C G p s m args meth c cX11_thorn RX11 5 (some FieldType.int)) : ∀ (Y : bk_Lay) (V : bk_Val) (a0 : Nat) (a4 : Nat) (H : Heap) (locs : List Loc) (ls : Array Slot) (out : Int32 × bk_Lay × bk_Val), lv_has ls 5 [(0, .ref a0), (4, .ref a4)] → bk_H G Y V s.heap H locs → q_X11_thorn_79 N Y V a0 a4 = some out → W p l e rm_X11_thorn s m args below meth c H locs 1 336 (MQ below (bk_Q G (some (.int out.1)) out.2.1 out.2.2) args s 2 341 (bk_A G)) (F0 m 79 ls []) := by
  have hx := C.1
  have hb := C.2.1
  intro Y V a0 a4 H locs ls out hl hH hq
  unfold q_X11_thorn_79 at hq
  refine lv_aload_n hx hb dX11_thorn_79 rfl (lv_at hl 0 rfl) ?_
  refine lv_aload hx hb dX11_thorn_80 (lv_at hl 1 rfl) ?_
  obtain ⟨hs_5, hq⟩ := bk_ck_some hq
  obtain ⟨r_2, Y_3, V_4, hr_1, hq⟩ := bk_bd3_some hq
  refine bk_callV (rest := []) (As := [.ref a4]) (ro := (some (.int r_2))) (Y1 := Y_3) (V1 := V_4) C hH hl.1 (c_X11_believe hr_1) mc_X11_believe mv_X11_believe lk_RX11_244 hs_5 rfl rfl ⟨rfl, rfl⟩ ⟨by decide, by decide⟩ rfl (Nat.le_of_ble_eq_true rfl) dX11_thorn_82 ⟨by decide, by decide⟩ (fun H locs hH => ?_)
  refine W.widen (k := 2) (n := 341) (by decide) (by decide) ?_
  cases hq
  exact bk_iret C hH dX11_thorn_85

set_option maxRecDepth 100000 in
set_option maxHeartbeats 4000000 in
theorem w_X11_thorn (C : bk_C G p s m args meth c cX11_thorn RX11 5 (some FieldType.int)) : ∀ (Y : bk_Lay) (V : bk_Val) (a0 : Nat) (x1 : Int32) (H : Heap) (locs : List Loc) (ls : Array Slot) (out : Int32 × bk_Lay × bk_Val), lv_has ls 5 [(0, .ref a0), (1, .int x1)] → bk_H G Y V s.heap H locs → q_X11_thorn N Y V a0 x1 = some out → W p l e rm_X11_thorn s m args below meth c H locs 0 0 (MQ below (bk_Q G (some (.int out.1)) out.2.1 out.2.2) args s 2 341 (bk_A G)) (F0 m 0 ls []) := by
  have hx := C.1
  have hb := C.2.1
  intro Y V a0 x1 H locs ls out hl hH hq
  unfold q_X11_thorn at hq
  refine lv_aload_n hx hb dX11_thorn_0 rfl (lv_at hl 0 rfl) ?_
  refine lv_iload_n hx hb dX11_thorn_1 rfl (lv_at hl 1 rfl) ?_
  obtain ⟨hs_8, hq⟩ := bk_ck_some hq
  obtain ⟨r_7, hr_6, hq⟩ := bk_bd_some hq
  refine bk_callV (rest := []) (As := [.int x1]) (ro := (some (.int r_7))) (Y1 := Y) (V1 := V) C hH hl.1 (c_X11_isInch hr_6) mc_X11_isInch mv_X11_isInch lk_RX11_220 hs_8 rfl rfl ⟨rfl, rfl⟩ ⟨by decide, by decide⟩ rfl (Nat.le_of_ble_eq_true rfl) dX11_thorn_2 ⟨by decide, by decide⟩ (fun H locs hH => ?_)
  refine lv_if_ne (tgt := 13) hx hb dX11_thorn_5 (by decide) (fun hc_42 => ?_) (fun hc_42 => ?_)
  · rw [if_neg hc_42] at hq
    refine lv_aload_n hx hb dX11_thorn_13 rfl (lv_at hl 0 rfl) ?_
    obtain ⟨b_9, hr_10, hq⟩ := bk_bd_some hq
    refine bk_getr C hH fl_RX11_33 hs_8 rfl hr_10 dX11_thorn_14 ?_
    refine lv_iload_n hx hb dX11_thorn_17 rfl (lv_at hl 1 rfl) ?_
    refine lv_aload_n hx hb dX11_thorn_18 rfl (lv_at hl 0 rfl) ?_
    refine bk_getr C hH fl_RX11_33 hs_8 rfl hr_10 dX11_thorn_19 ?_
    obtain ⟨hs_13, hq⟩ := bk_ck_some hq
    obtain ⟨r_12, hr_11, hq⟩ := bk_bd_some hq
    refine bk_callV (rest := [.int x1, .ref b_9]) (As := []) (ro := (some (.int r_12))) (Y1 := Y) (V1 := V) C hH hl.1 (c_X5_mark hr_11) mc_X5_mark mv_X5_mark lk_RX11_254 hs_13 rfl rfl ⟨rfl, rfl⟩ ⟨by decide, by decide⟩ rfl (Nat.le_of_ble_eq_true rfl) dX11_thorn_22 ⟨by decide, by decide⟩ (fun H locs hH => ?_)
    refine lv_isub hx hb dX11_thorn_25 ?_
    obtain ⟨r_15, hr_14, hq⟩ := bk_bd_some hq
    refine bk_callV (rest := []) (As := [.int (x1 - r_12)]) (ro := (some (.int r_15))) (Y1 := Y) (V1 := V) C hH hl.1 (c_X5_round hr_14) mc_X5_round mv_X5_round lk_RX11_231 hs_13 rfl rfl ⟨rfl, rfl⟩ ⟨by decide, by decide⟩ rfl (Nat.le_of_ble_eq_true rfl) dX11_thorn_26 ⟨by decide, by decide⟩ (fun H locs hH => ?_)
    refine lv_istore_n (lv' := [(2, .int r_15), (0, .ref a0), (1, .int x1)]) hx hb dX11_thorn_29 rfl hl (by decide) rfl (fun ls hl => ?_)
    refine lv_aload_n hx hb dX11_thorn_30 rfl (lv_at hl 1 rfl) ?_
    refine bk_getr C hH fl_RX11_33 hs_8 rfl hr_10 dX11_thorn_31 ?_
    refine lv_aload_n hx hb dX11_thorn_34 rfl (lv_at hl 1 rfl) ?_
    refine bk_getr C hH fl_RX11_33 hs_8 rfl hr_10 dX11_thorn_35 ?_
    obtain ⟨r_17, hr_16, hq⟩ := bk_bd_some hq
    refine bk_callV (rest := [.ref b_9]) (As := []) (ro := (some (.int r_17))) (Y1 := Y) (V1 := V) C hH hl.1 (c_X5_mark hr_16) mc_X5_mark mv_X5_mark lk_RX11_254 hs_13 rfl rfl ⟨rfl, rfl⟩ ⟨by decide, by decide⟩ rfl (Nat.le_of_ble_eq_true rfl) dX11_thorn_38 ⟨by decide, by decide⟩ (fun H locs hH => ?_)
    refine lv_iload_n hx hb dX11_thorn_41 rfl (lv_at hl 2 rfl) ?_
    refine lv_isub hx hb dX11_thorn_42 ?_
    obtain ⟨r_19, hr_18, hq⟩ := bk_bd_some hq
    refine bk_callV (rest := []) (As := [.int (r_17 - x1)]) (ro := (some (.int r_19))) (Y1 := Y) (V1 := V) C hH hl.1 (c_X5_round hr_18) mc_X5_round mv_X5_round lk_RX11_231 hs_13 rfl rfl ⟨rfl, rfl⟩ ⟨by decide, by decide⟩ rfl (Nat.le_of_ble_eq_true rfl) dX11_thorn_43 ⟨by decide, by decide⟩ (fun H locs hH => ?_)
    refine lv_istore_n (lv' := [(3, .int r_19), (2, .int r_15), (0, .ref a0), (1, .int x1)]) hx hb dX11_thorn_46 rfl hl (by decide) rfl (fun ls hl => ?_)
    refine lv_aload_n hx hb dX11_thorn_47 rfl (lv_at hl 2 rfl) ?_
    obtain ⟨b_20, hr_21, hq⟩ := bk_bd_some hq
    refine bk_getr C hH fl_RX11_63 hs_8 rfl hr_21 dX11_thorn_48 ?_
    obtain ⟨hs_22, hq⟩ := bk_ck_some hq
    obtain ⟨b_23, hr_24, hq⟩ := bk_bd_some hq
    refine bk_getr C hH fl_RX11_193 hs_22 rfl hr_24 dX11_thorn_51 ?_
    obtain ⟨ha_25, hq⟩ := bk_ck_some hq
    obtain ⟨hy_26, hq⟩ := bk_ck_some hq
    refine bk_clone (rest := []) (K := 336) C hH hl.1 kn_RX11_223 kn_same kn_nat kn_in kn_sel (by decide +kernel) (bk_arr ha_25) hy_26 (by decide) (by decide) (by decide) (by decide) dX11_thorn_54 (fun Y_28 V_29 H e_30 e_31 hH => ?_)
    have hq := bk_let_eq e_30 hq
    have hq := bk_let_eq e_31 hq
    obtain ⟨b_27, e_32⟩ : ∃ z, z = bk_sz Y := ⟨_, rfl⟩
    have hq := bk_let_eq e_32 hq
    rw [← e_32]
    refine W.widen (k := 1) (n := 336) (by decide) (by decide) ?_
    obtain ⟨ha_33, hq⟩ := bk_ck_some hq
    refine bk_castJ C hH cc_RX11_224 (bk_arr ha_33) dX11_thorn_57 ?_
    refine lv_astore (lv' := [(4, .ref b_27), (3, .int r_19), (2, .int r_15), (0, .ref a0), (1, .int x1)]) hx hb dX11_thorn_60 hl (by decide) rfl (fun ls hl => ?_)
    refine lv_aload hx hb dX11_thorn_62 (lv_at hl 0 rfl) ?_
    refine lv_iload_n hx hb dX11_thorn_64 rfl (lv_at hl 2 rfl) ?_
    obtain ⟨V_35, hr_34, hq⟩ := bk_bd_some hq
    refine bk_callS (rest := []) (As := [.ref b_27, .int r_15]) (ro := none) (Y1 := Y_28) (V1 := V_35) C hH hl.1 (c_X0_raiseOuter hr_34) mc_X0_raiseOuter st_X0_raiseOuter lk_RX11_257 rfl ⟨rfl, rfl⟩ ⟨by decide, by decide⟩ rfl (Nat.le_of_ble_eq_true rfl) dX11_thorn_65 ⟨by decide, by decide⟩ (fun H locs hH => ?_)
    refine lv_iload_n hx hb dX11_thorn_68 rfl (lv_at hl 1 rfl) ?_
    refine lv_iload_n hx hb dX11_thorn_69 rfl (lv_at hl 2 rfl) ?_
    refine lv_icmp_eq (tgt := 79) hx hb dX11_thorn_70 (by decide) (fun hc_38 => ?_) (fun hc_38 => ?_)
    · rw [if_pos hc_38] at hq
      exact w_X11_thorn_79 C _ _ _ _ _ _ _ _ (lv_sub hl [3, 0] rfl) hH hq
    · rw [if_neg hc_38] at hq
      refine lv_aload hx hb dX11_thorn_73 (lv_at hl 0 rfl) ?_
      refine lv_iload_n hx hb dX11_thorn_75 rfl (lv_at hl 1 rfl) ?_
      obtain ⟨V_37, hr_36, hq⟩ := bk_bd_some hq
      refine bk_callS (rest := []) (As := [.ref b_27, .int r_19]) (ro := none) (Y1 := Y_28) (V1 := V_37) C hH hl.1 (c_X0_raiseOuter hr_36) mc_X0_raiseOuter st_X0_raiseOuter lk_RX11_257 rfl ⟨rfl, rfl⟩ ⟨by decide, by decide⟩ rfl (Nat.le_of_ble_eq_true rfl) dX11_thorn_76 ⟨by decide, by decide⟩ (fun H locs hH => ?_)
      exact w_X11_thorn_79 C _ _ _ _ _ _ _ _ (lv_sub hl [3, 0] rfl) hH hq
  · rw [if_pos hc_42] at hq
    refine lv_aload_n hx hb dX11_thorn_8 rfl (lv_at hl 0 rfl) ?_
    obtain ⟨r_40, V_41, hr_39, hq⟩ := bk_bd2_some hq
    refine bk_callV (rest := []) (As := []) (ro := (some (.int r_40))) (Y1 := Y) (V1 := V_41) C hH hl.1 (c_X11_refuseAct hr_39) mc_X11_refuseAct mv_X11_refuseAct lk_RX11_189 hs_8 rfl rfl ⟨rfl, rfl⟩ ⟨by decide, by decide⟩ rfl (Nat.le_of_ble_eq_true rfl) dX11_thorn_9 ⟨by decide, by decide⟩ (fun H locs hH => ?_)
    refine W.widen (k := 2) (n := 341) (by decide) (by decide) ?_
    cases hq
    exact bk_iret C hH dX11_thorn_12
set_option maxRecDepth 100000 in
theorem c_X11_thorn {l : Launch} {G : bk_G} {N : Nat} {Y : bk_Lay} {V : bk_Val} {a0 : Nat} {x1 : Int32} {out : Int32 × bk_Lay × bk_Val} (hq : q_X11_thorn N Y V a0 x1 = some out) : Met l yX11_thorn (bk_ws yX11_thorn cX11_thorn 5 (some FieldType.int)) rm_X11_thorn (bk_Pc G [.ref a0, .int x1] Y V) (bk_Q G (some (.int out.1)) out.2.1 out.2.2) 2 341 (bk_A G) :=
  bk_met (by decide) (Nat.le_of_ble_eq_true rfl) (fun p e s m args below meth c ls C hnm hH hl => w_X11_thorn C _ _ _ _ _ _ _ _ hl hH hq)

def rm_X11_dark : Room := bk_rm 9 1 6 220
set_option maxRecDepth 100000 in
set_option maxHeartbeats 4000000 in
theorem w_X11_dark_9 (C : bk_C G p s m args meth c cX11_dark RX11 2 (some FieldType.int)) (hst : l.stackTraces = false) (hT9 : ∀ x ∈ c.exceptionTable.toList, False) : ∀ (V : bk_Val) (a0 : Nat) (x1 : Int32) (sx0 : Int32) (H : Heap) (locs : List Loc) (ls : Array Slot) (out : Nat ⊕ (Int32 × bk_Val)), lv_has ls 2 [(0, .ref a0), (1, .int x1)] → bk_H G Y V s.heap H locs → q_X11_dark_9 N Y V a0 x1 sx0 = some out → W p l e rm_X11_dark s m args below meth c H locs 0 0 (vx_MQ below (bk_QX (fun (o : Int32 × bk_Val) => bk_Q G (some (.int o.1)) Y o.2) out) (bk_XC G Y V out) args s 1 6 (bk_A G)) (F0 m 9 ls [.int sx0]) := by
  have hx := C.1
  have hb := C.2.1
  intro V a0 x1 sx0 H locs ls out hl hH hq
  unfold q_X11_dark_9 at hq
  rcases bk_bdx_cases hq with ⟨x9_2, hr_1, ho_3⟩ | ⟨u9, hr_1, hq⟩
  · exact bk_callSt (rest := []) (As := [.int sx0]) (e9 := x9_2) C hT9 hH hl.1 (c_X11_needElement hst hr_1) ho_3 mc_X11_needElement st_X11_needElement ml_RX11_214 rfl ⟨rfl, rfl⟩ ⟨by decide, by decide⟩ rfl (Nat.le_of_ble_eq_true rfl) dX11_dark_9 ⟨by decide, by decide⟩ (by decide) (by decide)
  · refine bk_callSr (rest := []) (As := [.int sx0]) (o1 := u9) (ro := none) (Y1 := Y) (V1 := V) rfl C hH hl.1 (c_X11_needElement hst hr_1) mc_X11_needElement st_X11_needElement ml_RX11_214 rfl ⟨rfl, rfl⟩ ⟨by decide, by decide⟩ rfl (Nat.le_of_ble_eq_true rfl) dX11_dark_9 ⟨by decide, by decide⟩ (fun H locs hH => ?_)
    refine W.widen (k := 1) (n := 6) (by decide) (by decide) ?_
    refine lv_iload_n hx hb dX11_dark_12 rfl (lv_at hl 1 rfl) ?_
    refine lv_aload_n hx hb dX11_dark_13 rfl (lv_at hl 0 rfl) ?_
    obtain ⟨hs_4, hq⟩ := bk_ck_some hq
    obtain ⟨b_5, hr_6, hq⟩ := bk_bd_some hq
    refine bk_getr C hH fl_RX11_33 hs_4 rfl hr_6 dX11_dark_14 ?_
    obtain ⟨hs_7, hq⟩ := bk_ck_some hq
    obtain ⟨b_8, hr_9, hq⟩ := bk_bd_some hq
    refine bk_getr C hH fl_RX11_130 hs_7 rfl hr_9 dX11_dark_17 ?_
    obtain ⟨hs_10, hq⟩ := bk_ck_some hq
    refine bk_geti C hH fl_RX11_134 hs_10 rfl dX11_dark_20 ?_
    refine lv_icmp_lt (tgt := 28) hx hb dX11_dark_23 (by decide) (fun hc_17 => ?_) (fun hc_17 => ?_)
    · rw [if_pos hc_17] at hq
      refine lv_aload_n hx hb dX11_dark_28 rfl (lv_at hl 0 rfl) ?_
      refine bk_getr C hH fl_RX11_33 hs_4 rfl hr_6 dX11_dark_29 ?_
      refine bk_getr C hH fl_RX11_130 hs_7 rfl hr_9 dX11_dark_32 ?_
      refine lv_aload_n hx hb dX11_dark_35 rfl (lv_at hl 0 rfl) ?_
      obtain ⟨b_11, hr_12, hq⟩ := bk_bd_some hq
      refine bk_getr C hH fl_RX11_27 hs_4 rfl hr_12 dX11_dark_36 ?_
      obtain ⟨V_14, hr_13, hq⟩ := bk_bd_some hq
      refine bk_callV (rest := []) (As := [.ref b_11]) (ro := none) (Y1 := Y) (V1 := V_14) C hH hl.1 (c_X10_putInOrder hr_13) mc_X10_putInOrder mv_X10_putInOrder lk_RX11_376 hs_10 rfl rfl ⟨rfl, rfl⟩ ⟨by decide, by decide⟩ rfl (Nat.le_of_ble_eq_true rfl) dX11_dark_39 ⟨by decide, by decide⟩ (fun H locs hH => ?_)
      refine lv_aload_n hx hb dX11_dark_42 rfl (lv_at hl 0 rfl) ?_
      refine bk_getr C hH fl_RX11_27 hs_4 rfl hr_12 dX11_dark_43 ?_
      refine lv_iload_n hx hb dX11_dark_46 rfl (lv_at hl 1 rfl) ?_
      obtain ⟨ha_15, hq⟩ := bk_ck_some hq
      obtain ⟨hi_16, hq⟩ := bk_ck_some hq
      refine bk_iald C hH (bk_arr ha_15) (bk_in_vp hi_16) dX11_dark_47 ?_
      refine vx_ret ?_
      cases hq
      exact bk_iret C hH dX11_dark_48
    · rw [if_neg hc_17] at hq
      refine lv_iconst (v := (-1)) hx hb dX11_dark_26 (by decide) ?_
      refine vx_ret ?_
      cases hq
      exact bk_iret C hH dX11_dark_27

set_option maxRecDepth 100000 in
set_option maxHeartbeats 4000000 in
theorem w_X11_dark (C : bk_C G p s m args meth c cX11_dark RX11 2 (some FieldType.int)) (hst : l.stackTraces = false) (hT9 : ∀ x ∈ c.exceptionTable.toList, False) : ∀ (V : bk_Val) (a0 : Nat) (x1 : Int32) (H : Heap) (locs : List Loc) (ls : Array Slot) (out : Nat ⊕ (Int32 × bk_Val)), lv_has ls 2 [(0, .ref a0), (1, .int x1)] → bk_H G Y V s.heap H locs → q_X11_dark N Y V a0 x1 = some out → W p l e rm_X11_dark s m args below meth c H locs 0 0 (vx_MQ below (bk_QX (fun (o : Int32 × bk_Val) => bk_Q G (some (.int o.1)) Y o.2) out) (bk_XC G Y V out) args s 1 6 (bk_A G)) (F0 m 0 ls []) := by
  have hx := C.1
  have hb := C.2.1
  intro V a0 x1 H locs ls out hl hH hq
  unfold q_X11_dark at hq
  refine lv_iload_n hx hb dX11_dark_0 rfl (lv_at hl 1 rfl) ?_
  refine lv_if_lt (tgt := 8) hx hb dX11_dark_1 (by decide) (fun hc_18 => ?_) (fun hc_18 => ?_)
  · rw [if_pos hc_18] at hq
    refine lv_iconst (v := 0) hx hb dX11_dark_8 (by decide) ?_
    exact w_X11_dark_9 C hst hT9 _ _ _ _ _ _ _ _ (lv_sub hl [0, 1] rfl) hH hq
  · rw [if_neg hc_18] at hq
    refine lv_iconst (v := 1) hx hb dX11_dark_4 (by decide) ?_
    refine lv_goto (tgt := 9) hx hb dX11_dark_5 (by decide) ?_
    exact w_X11_dark_9 C hst hT9 _ _ _ _ _ _ _ _ (lv_sub hl [0, 1] rfl) hH hq
set_option maxRecDepth 100000 in
theorem c_X11_dark {l : Launch} {G : bk_G} {N : Nat} {Y : bk_Lay} {V : bk_Val} (hst : l.stackTraces = false) {a0 : Nat} {x1 : Int32} {out : Nat ⊕ (Int32 × bk_Val)} (hq : q_X11_dark N Y V a0 x1 = some out) : vx_Met l yX11_dark (bk_ws yX11_dark cX11_dark 2 (some FieldType.int)) rm_X11_dark (bk_Pc G [.ref a0, .int x1] Y V) (bk_QX (fun (o : Int32 × bk_Val) => bk_Q G (some (.int o.1)) Y o.2) out) (bk_XC G Y V out) 1 6 (bk_A G) :=
  bk_metx (by decide) (Nat.le_of_ble_eq_true rfl) (fun p e s m args below meth c ls C hT9 hH hl => w_X11_dark C hst hT9 _ _ _ _ _ _ _ hl hH hq)

def rm_X11_undo : Room := bk_rm 1 0 0 20
set_option maxRecDepth 100000 in
set_option maxHeartbeats 4000000 in
theorem w_X11_undo (C : bk_C G p s m args meth c cX11_undo RX11 1 (some FieldType.int)) : ∀ (Y : bk_Lay) (V : bk_Val) (a0 : Nat) (H : Heap) (locs : List Loc) (ls : Array Slot) (out : Int32 × bk_Lay × bk_Val), lv_has ls 1 [(0, .ref a0)] → bk_H G Y V s.heap H locs → q_X11_undo N Y V a0 = some out → W p l e rm_X11_undo s m args below meth c H locs 0 0 (MQ below (bk_Q G (some (.int out.1)) out.2.1 out.2.2) args s 0 0 (bk_A G)) (F0 m 0 ls []) := by
  have hx := C.1
  have hb := C.2.1
  intro Y V a0 H locs ls out hl hH hq
  unfold q_X11_undo at hq
  refine lv_aload_n hx hb dX11_undo_0 rfl (lv_at hl 0 rfl) ?_
  obtain ⟨hs_1, hq⟩ := bk_ck_some hq
  refine bk_geti C hH fl_RX11_99 hs_1 rfl dX11_undo_1 ?_
  refine lv_if_eq (tgt := 17) hx hb dX11_undo_4 (by decide) (fun hc_16 => ?_) (fun hc_16 => ?_)
  · rw [if_pos hc_16] at hq
    refine lv_iconst (v := (-1)) hx hb dX11_undo_17 (by decide) ?_
    cases hq
    exact bk_iret C hH dX11_undo_18
  · rw [if_neg hc_16] at hq
    refine lv_aload_n hx hb dX11_undo_7 rfl (lv_at hl 0 rfl) ?_
    obtain ⟨b_2, hr_3, hq⟩ := bk_bd_some hq
    refine bk_getr C hH fl_RX11_63 hs_1 rfl hr_3 dX11_undo_8 ?_
    obtain ⟨hs_4, hq⟩ := bk_ck_some hq
    rcases bk_nl_cases hq with ⟨hr_6, hq⟩ | ⟨b_5, hr_6, hq⟩
    · refine bk_getn C hH fl_RX11_204 hs_4 rfl hr_6 dX11_undo_11 ?_
      refine lv_ifnonnullN hx hb dX11_undo_14 ?_
      refine lv_iconst (v := (-1)) hx hb dX11_undo_17 (by decide) ?_
      cases hq
      exact bk_iret C hH dX11_undo_18
    · refine bk_getr C hH fl_RX11_204 hs_4 rfl hr_6 dX11_undo_11 ?_
      refine lv_ifnonnull (tgt := 19) hx hb dX11_undo_14 (by decide) ?_
      refine lv_aload_n hx hb dX11_undo_19 rfl (lv_at hl 0 rfl) ?_
      refine lv_aload_n hx hb dX11_undo_20 rfl (lv_at hl 0 rfl) ?_
      refine bk_getr C hH fl_RX11_63 hs_1 rfl hr_3 dX11_undo_21 ?_
      refine bk_getr C hH fl_RX11_204 hs_4 rfl hr_6 dX11_undo_24 ?_
      refine bk_putr C hH fp_RX11_63 (fun h => by cases h) hs_1 rfl rfl rfl dX11_undo_27 (fun Y_7 H locs e_8 hH => ?_)
      have hq := bk_let_eq e_8 hq
      refine lv_aload_n hx hb dX11_undo_30 rfl (lv_at hl 0 rfl) ?_
      refine lv_dup hx hb dX11_undo_31 rfl ?_
      refine bk_geti C hH fl_RX11_99 (by rw [e_8]; exact hs_1) rfl dX11_undo_32 ?_
      refine lv_iconst (v := 1) hx hb dX11_undo_35 (by decide) ?_
      refine lv_isub hx hb dX11_undo_36 ?_
      refine bk_puti C hH fp_RX11_99 (fun h => by cases h) (by rw [e_8]; exact hs_1) rfl dX11_undo_37 (fun V_9 H locs e_10 hH => ?_)
      have hq := bk_let_eq e_10 hq
      refine lv_aload_n hx hb dX11_undo_40 rfl (lv_at hl 0 rfl) ?_
      obtain ⟨b_11, hr_12, hq⟩ := bk_bd_some hq
      refine bk_getr C hH fl_RX11_19 (by rw [e_8]; exact hs_1) rfl hr_12 dX11_undo_41 ?_
      obtain ⟨hs_15, hq⟩ := bk_ck_some hq
      obtain ⟨V_14, hr_13, hq⟩ := bk_bd_some hq
      refine bk_callV (rest := []) (As := []) (ro := none) (Y1 := Y_7) (V1 := V_14) C hH hl.1 (c_X3_forget hr_13) mc_X3_forget mv_X3_forget lk_RX11_112 hs_15 rfl rfl ⟨rfl, rfl⟩ ⟨by decide, by decide⟩ rfl (Nat.le_of_ble_eq_true rfl) dX11_undo_44 ⟨by decide, by decide⟩ (fun H locs hH => ?_)
      refine lv_aload_n hx hb dX11_undo_47 rfl (lv_at hl 0 rfl) ?_
      refine bk_geti C hH fl_RX11_99 (by rw [e_8]; exact hs_1) rfl dX11_undo_48 ?_
      cases hq
      exact bk_iret C hH dX11_undo_51
set_option maxRecDepth 100000 in
theorem c_X11_undo {l : Launch} {G : bk_G} {N : Nat} {Y : bk_Lay} {V : bk_Val} {a0 : Nat} {out : Int32 × bk_Lay × bk_Val} (hq : q_X11_undo N Y V a0 = some out) : Met l yX11_undo (bk_ws yX11_undo cX11_undo 1 (some FieldType.int)) rm_X11_undo (bk_Pc G [.ref a0] Y V) (bk_Q G (some (.int out.1)) out.2.1 out.2.2) 0 0 (bk_A G) :=
  bk_met (by decide) (Nat.le_of_ble_eq_true rfl) (fun p e s m args below meth c ls C hnm hH hl => w_X11_undo C _ _ _ _ _ _ _ hl hH hq)

def rm_X11_cause : Room := bk_rm 10 2 12 241
set_option maxRecDepth 100000 in
set_option maxHeartbeats 4000000 in
theorem w_X11_cause_64 {XC : String → State → State → Prop} (C : bk_C G p s m args meth c cX11_cause RX11 11 (some FieldType.int)) (hst : l.stackTraces = false) (hT9 : ∀ x ∈ c.exceptionTable.toList, False) (k25 : bk_Val → Nat → Int32 → Int32 → Int64 → Int64 → Int32 → Int32 → Option (Nat ⊕ (Int32))) (i25 : ∀ (V : bk_Val) (a0 : Nat) (x1 : Int32) (x2 : Int32) (w3 : Int64) (w5 : Int64) (x7 : Int32) (x8 : Int32) (H : Heap) (locs : List Loc) (ls : Array Slot) (out : Nat ⊕ (Int32)), lv_has ls 11 [(0, .ref a0), (1, .int x1), (2, .int x2), (3, .long w3), (5, .long w5), (7, .int x7), (8, .int x8)] → bk_H G Y V s.heap H locs → k25 V a0 x1 x2 w3 w5 x7 x8 = some out → W p l e rm_X11_cause s m args below meth c H locs 2 12 (vx_MQ below (bk_QX (fun (o : Int32) => bk_Q G (some (.int o)) Y V) out) XC args s 2 12 (bk_A G)) (F0 m 25 ls [])) : ∀ (V : bk_Val) (a0 : Nat) (x1 : Int32) (x2 : Int32) (w3 : Int64) (w5 : Int64) (x7 : Int32) (x8 : Int32) (H : Heap) (locs : List Loc) (ls : Array Slot) (out : Nat ⊕ (Int32)), lv_has ls 11 [(0, .ref a0), (1, .int x1), (2, .int x2), (3, .long w3), (5, .long w5), (7, .int x7), (8, .int x8)] → bk_H G Y V s.heap H locs → q_X11_cause_64 N Y k25 V a0 x1 x2 w3 w5 x7 x8 = some out → W p l e rm_X11_cause s m args below meth c H locs 2 12 (vx_MQ below (bk_QX (fun (o : Int32) => bk_Q G (some (.int o)) Y V) out) XC args s 2 12 (bk_A G)) (F0 m 64 ls []) := by
  have hx := C.1
  have hb := C.2.1
  intro V a0 x1 x2 w3 w5 x7 x8 H locs ls out hl hH hq
  unfold q_X11_cause_64 at hq
  refine lv_iinc (v := (x8 + 1)) (lv' := [(8, .int (x8 + 1)), (0, .ref a0), (1, .int x1), (2, .int x2), (3, .long w3), (5, .long w5), (7, .int x7)]) hx hb dX11_cause_64 hl (k := 6) rfl rfl (by decide) rfl (fun ls hl => ?_)
  refine lv_goto (tgt := 25) hx hb dX11_cause_67 (by decide) ?_
  exact i25 _ _ _ _ _ _ _ _ _ _ _ _ (lv_sub hl [1, 2, 3, 4, 5, 6, 0] rfl) hH hq

set_option maxRecDepth 100000 in
set_option maxHeartbeats 4000000 in
theorem w_X11_cause_25 {XC : String → State → State → Prop} (C : bk_C G p s m args meth c cX11_cause RX11 11 (some FieldType.int)) (hst : l.stackTraces = false) (hT9 : ∀ x ∈ c.exceptionTable.toList, False) : ∀ (n : Nat), ∀ (V : bk_Val) (a0 : Nat) (x1 : Int32) (x2 : Int32) (w3 : Int64) (w5 : Int64) (x7 : Int32) (x8 : Int32) (H : Heap) (locs : List Loc) (ls : Array Slot) (out : Nat ⊕ (Int32)), lv_has ls 11 [(0, .ref a0), (1, .int x1), (2, .int x2), (3, .long w3), (5, .long w5), (7, .int x7), (8, .int x8)] → bk_H G Y V s.heap H locs → q_X11_cause_25 N Y n V a0 x1 x2 w3 w5 x7 x8 = some out → W p l e rm_X11_cause s m args below meth c H locs 2 12 (vx_MQ below (bk_QX (fun (o : Int32) => bk_Q G (some (.int o)) Y V) out) XC args s 2 12 (bk_A G)) (F0 m 25 ls []) := by
  have hx := C.1
  have hb := C.2.1
  intro n
  induction n with
  | zero =>
    intro V a0 x1 x2 w3 w5 x7 x8 H locs ls out hl hH hq
    exact nomatch (show (none : Option (Nat ⊕ (Int32))) = some out from hq)
  | succ n ih =>
    intro V a0 x1 x2 w3 w5 x7 x8 H locs ls out hl hH hq
    unfold q_X11_cause_25 at hq
    refine lv_iload hx hb dX11_cause_25 (lv_at hl 6 rfl) ?_
    refine lv_iconst (v := 4) hx hb dX11_cause_27 (by decide) ?_
    refine lv_icmp_ge (tgt := 70) hx hb dX11_cause_28 (by decide) (fun hc_17 => ?_) (fun hc_17 => ?_)
    · rw [if_pos hc_17] at hq
      refine lv_iload_n hx hb dX11_cause_70 rfl (lv_at hl 2 rfl) ?_
      refine lv_iconst (v := (-1)) hx hb dX11_cause_71 (by decide) ?_
      refine lv_icmp_ne (tgt := 80) hx hb dX11_cause_72 (by decide) (fun hc_9 => ?_) (fun hc_9 => ?_)
      · rw [if_neg hc_9] at hq
        refine lv_aload_n hx hb dX11_cause_80 rfl (lv_at hl 0 rfl) ?_
        obtain ⟨hs_1, hq⟩ := bk_ck_some hq
        obtain ⟨b_2, hr_3, hq⟩ := bk_bd_some hq
        refine bk_getr C hH fl_RX11_33 hs_1 rfl hr_3 dX11_cause_81 ?_
        refine lv_iload_n hx hb dX11_cause_84 rfl (lv_at hl 1 rfl) ?_
        refine lv_iload_n hx hb dX11_cause_85 rfl (lv_at hl 2 rfl) ?_
        obtain ⟨hs_6, hq⟩ := bk_ck_some hq
        obtain ⟨r_5, hr_4, hq⟩ := bk_bd_some hq
        refine bk_callV (rest := []) (As := [.int x1, .int x2]) (ro := (some (.long r_5))) (Y1 := Y) (V1 := V) C hH hl.1 (c_X5_weightOfCause hr_4) mc_X5_weightOfCause mv_X5_weightOfCause lk_RX11_360 hs_6 rfl rfl ⟨rfl, rfl⟩ ⟨by decide, by decide⟩ rfl (Nat.le_of_ble_eq_true rfl) dX11_cause_86 ⟨by decide, by decide⟩ (fun H locs hH => ?_)
        refine lv_lload_n hx hb dX11_cause_89 rfl (lv_at hl 3 rfl) ?_
        obtain ⟨r_8, hr_7, hq⟩ := bk_bd_some hq
        refine bk_callS (rest := []) (As := [.long r_5, .long w3]) (ro := (some (.int r_8))) (Y1 := Y) (V1 := V) C hH hl.1 (c_X11_ofThousand hr_7) mc_X11_ofThousand st_X11_ofThousand lk_RX11_268 rfl ⟨rfl, rfl⟩ ⟨by decide, by decide⟩ rfl (Nat.le_of_ble_eq_true rfl) dX11_cause_90 ⟨by decide, by decide⟩ (fun H locs hH => ?_)
        refine vx_ret ?_
        cases hq
        exact bk_iret C hH dX11_cause_93
      · rw [if_pos hc_9] at hq
        refine lv_iload hx hb dX11_cause_75 (lv_at hl 5 rfl) ?_
        refine lv_goto (tgt := 93) hx hb dX11_cause_77 (by decide) ?_
        refine vx_ret ?_
        cases hq
        exact bk_iret C hH dX11_cause_93
    · rw [if_neg hc_17] at hq
      refine lv_aload_n hx hb dX11_cause_31 rfl (lv_at hl 0 rfl) ?_
      obtain ⟨hs_10, hq⟩ := bk_ck_some hq
      obtain ⟨b_11, hr_12, hq⟩ := bk_bd_some hq
      refine bk_getr C hH fl_RX11_33 hs_10 rfl hr_12 dX11_cause_32 ?_
      refine lv_iload_n hx hb dX11_cause_35 rfl (lv_at hl 1 rfl) ?_
      refine lv_iload hx hb dX11_cause_36 (lv_at hl 6 rfl) ?_
      obtain ⟨hs_15, hq⟩ := bk_ck_some hq
      obtain ⟨r_14, hr_13, hq⟩ := bk_bd_some hq
      refine bk_callV (rest := []) (As := [.int x1, .int x8]) (ro := (some (.long r_14))) (Y1 := Y) (V1 := V) C hH hl.1 (c_X5_weightOfCause hr_13) mc_X5_weightOfCause mv_X5_weightOfCause lk_RX11_360 hs_15 rfl rfl ⟨rfl, rfl⟩ ⟨by decide, by decide⟩ rfl (Nat.le_of_ble_eq_true rfl) dX11_cause_38 ⟨by decide, by decide⟩ (fun H locs hH => ?_)
      refine lv_lstore (lv' := [(9, .long r_14), (0, .ref a0), (1, .int x1), (2, .int x2), (3, .long w3), (5, .long w5), (7, .int x7), (8, .int x8)]) hx hb dX11_cause_41 hl (by decide) rfl (fun ls hl => ?_)
      refine lv_lload_n hx hb dX11_cause_43 rfl (lv_at hl 4 rfl) ?_
      refine lv_lload hx hb dX11_cause_44 (lv_at hl 0 rfl) ?_
      refine lv_ladd hx hb dX11_cause_46 ?_
      refine lv_lstore_n (lv' := [(3, .long (w3 + r_14)), (9, .long r_14), (0, .ref a0), (1, .int x1), (2, .int x2), (5, .long w5), (7, .int x7), (8, .int x8)]) hx hb dX11_cause_47 rfl hl (by decide) rfl (fun ls hl => ?_)
      refine lv_lload hx hb dX11_cause_48 (lv_at hl 1 rfl) ?_
      refine lv_lload hx hb dX11_cause_50 (lv_at hl 5 rfl) ?_
      refine W.lcmp hx hb dX11_cause_52 ?_
      refine lv_if_le (tgt := 64) hx hb dX11_cause_53 (by decide) (fun hc_16 => ?_) (fun hc_16 => ?_)
      · rw [if_pos hc_16] at hq
        exact w_X11_cause_64 C hst hT9 _ ih _ _ _ _ _ _ _ _ _ _ _ _ (lv_sub hl [2, 3, 4, 0, 5, 6, 7] rfl) hH hq
      · rw [if_neg hc_16] at hq
        refine lv_lload hx hb dX11_cause_56 (lv_at hl 1 rfl) ?_
        refine lv_lstore (lv' := [(5, .long r_14), (3, .long (w3 + r_14)), (9, .long r_14), (0, .ref a0), (1, .int x1), (2, .int x2), (7, .int x7), (8, .int x8)]) hx hb dX11_cause_58 hl (by decide) rfl (fun ls hl => ?_)
        refine lv_iload hx hb dX11_cause_60 (lv_at hl 7 rfl) ?_
        refine lv_istore (lv' := [(7, .int x8), (5, .long r_14), (3, .long (w3 + r_14)), (9, .long r_14), (0, .ref a0), (1, .int x1), (2, .int x2), (8, .int x8)]) hx hb dX11_cause_62 hl (by decide) rfl (fun ls hl => ?_)
        exact w_X11_cause_64 C hst hT9 _ ih _ _ _ _ _ _ _ _ _ _ _ _ (lv_sub hl [4, 5, 6, 2, 1, 0, 7] rfl) hH hq

set_option maxRecDepth 100000 in
set_option maxHeartbeats 4000000 in
theorem w_X11_cause (C : bk_C G p s m args meth c cX11_cause RX11 11 (some FieldType.int)) (hst : l.stackTraces = false) (hT9 : ∀ x ∈ c.exceptionTable.toList, False) : ∀ (V : bk_Val) (a0 : Nat) (x1 : Int32) (x2 : Int32) (H : Heap) (locs : List Loc) (ls : Array Slot) (out : Nat ⊕ (Int32)), lv_has ls 11 [(0, .ref a0), (1, .int x1), (2, .int x2)] → bk_H G Y V s.heap H locs → q_X11_cause N Y V a0 x1 x2 = some out → W p l e rm_X11_cause s m args below meth c H locs 0 0 (vx_MQ below (bk_QX (fun (o : Int32) => bk_Q G (some (.int o)) Y V) out) (bk_XC G Y V out) args s 2 12 (bk_A G)) (F0 m 0 ls []) := by
  have hx := C.1
  have hb := C.2.1
  intro V a0 x1 x2 H locs ls out hl hH hq
  unfold q_X11_cause at hq
  refine lv_aload_n hx hb dX11_cause_0 rfl (lv_at hl 0 rfl) ?_
  refine lv_iload_n hx hb dX11_cause_1 rfl (lv_at hl 1 rfl) ?_
  obtain ⟨hs_19, hq⟩ := bk_ck_some hq
  rcases bk_bdx_cases hq with ⟨x9_20, hr_18, ho_21⟩ | ⟨u2, hr_18, hq⟩
  · exact bk_callVt (rest := []) (As := [.int x1]) (e9 := x9_20) C hT9 hH hl.1 (c_X11_needHole hst hr_18) ho_21 mc_X11_needHole mv_X11_needHole ml_RX11_160 hs_19 rfl rfl ⟨rfl, rfl⟩ ⟨by decide, by decide⟩ rfl (Nat.le_of_ble_eq_true rfl) dX11_cause_2 ⟨by decide, by decide⟩ (by decide) (by decide)
  · refine bk_callVr (rest := []) (As := [.int x1]) (o1 := u2) (ro := none) (Y1 := Y) (V1 := V) rfl C hH hl.1 (c_X11_needHole hst hr_18) mc_X11_needHole mv_X11_needHole ml_RX11_160 hs_19 rfl rfl ⟨rfl, rfl⟩ ⟨by decide, by decide⟩ rfl (Nat.le_of_ble_eq_true rfl) dX11_cause_2 ⟨by decide, by decide⟩ (fun H locs hH => ?_)
    refine W.widen (k := 1) (n := 6) (by decide) (by decide) ?_
    refine lv_iload_n hx hb dX11_cause_5 rfl (lv_at hl 2 rfl) ?_
    refine lv_iconst (v := (-1)) hx hb dX11_cause_6 (by decide) ?_
    refine lv_iconst (v := 3) hx hb dX11_cause_7 (by decide) ?_
    obtain ⟨r_23, hr_22, hq⟩ := bk_bd_some hq
    refine bk_callS (rest := []) (As := [.int x2, .int (-1), .int 3]) (ro := (some (.int r_23))) (Y1 := Y) (V1 := V) C hH hl.1 (c_X11_isWithin hr_22) mc_X11_isWithin st_X11_isWithin lk_RX11_78 rfl ⟨rfl, rfl⟩ ⟨by decide, by decide⟩ rfl (Nat.le_of_ble_eq_true rfl) dX11_cause_8 ⟨by decide, by decide⟩ (fun H locs hH => ?_)
    rcases bk_bdx_cases hq with ⟨x9_25, hr_24, ho_26⟩ | ⟨u11, hr_24, hq⟩
    · exact bk_callSt (rest := []) (As := [.int r_23]) (e9 := x9_25) C hT9 hH hl.1 (c_X11_needElement hst hr_24) ho_26 mc_X11_needElement st_X11_needElement ml_RX11_214 rfl ⟨rfl, rfl⟩ ⟨by decide, by decide⟩ rfl (Nat.le_of_ble_eq_true rfl) dX11_cause_11 ⟨by decide, by decide⟩ (by decide) (by decide)
    · refine bk_callSr (rest := []) (As := [.int r_23]) (o1 := u11) (ro := none) (Y1 := Y) (V1 := V) rfl C hH hl.1 (c_X11_needElement hst hr_24) mc_X11_needElement st_X11_needElement ml_RX11_214 rfl ⟨rfl, rfl⟩ ⟨by decide, by decide⟩ rfl (Nat.le_of_ble_eq_true rfl) dX11_cause_11 ⟨by decide, by decide⟩ (fun H locs hH => ?_)
      refine W.widen (k := 2) (n := 12) (by decide) (by decide) ?_
      refine lv_lconst (v := 0) hx hb dX11_cause_14 (by decide) ?_
      refine lv_lstore_n (lv' := [(3, .long 0), (0, .ref a0), (1, .int x1), (2, .int x2)]) hx hb dX11_cause_15 rfl hl (by decide) rfl (fun ls hl => ?_)
      refine lv_lconst (v := 0) hx hb dX11_cause_16 (by decide) ?_
      refine lv_lstore (lv' := [(5, .long 0), (3, .long 0), (0, .ref a0), (1, .int x1), (2, .int x2)]) hx hb dX11_cause_17 hl (by decide) rfl (fun ls hl => ?_)
      refine lv_iconst (v := (-1)) hx hb dX11_cause_19 (by decide) ?_
      refine lv_istore (lv' := [(7, .int (-1)), (5, .long 0), (3, .long 0), (0, .ref a0), (1, .int x1), (2, .int x2)]) hx hb dX11_cause_20 hl (by decide) rfl (fun ls hl => ?_)
      refine lv_iconst (v := 0) hx hb dX11_cause_22 (by decide) ?_
      refine lv_istore (lv' := [(8, .int 0), (7, .int (-1)), (5, .long 0), (3, .long 0), (0, .ref a0), (1, .int x1), (2, .int x2)]) hx hb dX11_cause_23 hl (by decide) rfl (fun ls hl => ?_)
      exact w_X11_cause_25 C hst hT9 _ _ _ _ _ _ _ _ _ _ _ _ _ (lv_sub hl [4, 5, 6, 3, 2, 1, 0] rfl) hH hq
set_option maxRecDepth 100000 in
theorem c_X11_cause {l : Launch} {G : bk_G} {N : Nat} {Y : bk_Lay} {V : bk_Val} (hst : l.stackTraces = false) {a0 : Nat} {x1 : Int32} {x2 : Int32} {out : Nat ⊕ (Int32)} (hq : q_X11_cause N Y V a0 x1 x2 = some out) : vx_Met l yX11_cause (bk_ws yX11_cause cX11_cause 11 (some FieldType.int)) rm_X11_cause (bk_Pc G [.ref a0, .int x1, .int x2] Y V) (bk_QX (fun (o : Int32) => bk_Q G (some (.int o)) Y V) out) (bk_XC G Y V out) 2 12 (bk_A G) :=
  bk_metx (by decide) (Nat.le_of_ble_eq_true rfl) (fun p e s m args below meth c ls C hT9 hH hl => w_X11_cause C hst hT9 _ _ _ _ _ _ _ _ hl hH hq)

def rm_X11_restore : Room := bk_rm 1 0 0 20
set_option maxRecDepth 100000 in
set_option maxHeartbeats 4000000 in
theorem w_X11_restore (C : bk_C G p s m args meth c cX11_restore RX11 1 (some FieldType.boolean)) : ∀ (Y : bk_Lay) (V : bk_Val) (a0 : Nat) (H : Heap) (locs : List Loc) (ls : Array Slot) (out : Int32 × bk_Lay × bk_Val), lv_has ls 1 [(0, .ref a0)] → bk_H G Y V s.heap H locs → q_X11_restore N Y V a0 = some out → W p l e rm_X11_restore s m args below meth c H locs 0 0 (MQ below (bk_Q G (some (.int out.1)) out.2.1 out.2.2) args s 0 0 (bk_A G)) (F0 m 0 ls []) := by
  have hx := C.1
  have hb := C.2.1
  intro Y V a0 H locs ls out hl hH hq
  unfold q_X11_restore at hq
  refine lv_aload_n hx hb dX11_restore_0 rfl (lv_at hl 0 rfl) ?_
  obtain ⟨hs_1, hq⟩ := bk_ck_some hq
  rcases bk_nl_cases hq with ⟨hr_3, hq⟩ | ⟨b_2, hr_3, hq⟩
  · refine bk_getn C hH fl_RX11_102 hs_1 rfl hr_3 dX11_restore_1 ?_
    refine lv_ifnonnullN hx hb dX11_restore_4 ?_
    refine lv_iconst (v := 0) hx hb dX11_restore_7 (by decide) ?_
    cases hq
    exact bk_zret C hH (Or.inl rfl) dX11_restore_8
  · refine bk_getr C hH fl_RX11_102 hs_1 rfl hr_3 dX11_restore_1 ?_
    refine lv_ifnonnull (tgt := 9) hx hb dX11_restore_4 (by decide) ?_
    refine lv_aload_n hx hb dX11_restore_9 rfl (lv_at hl 0 rfl) ?_
    refine lv_aload_n hx hb dX11_restore_10 rfl (lv_at hl 0 rfl) ?_
    refine bk_getr C hH fl_RX11_102 hs_1 rfl hr_3 dX11_restore_11 ?_
    refine bk_putr C hH fp_RX11_63 (fun h => by cases h) hs_1 rfl rfl rfl dX11_restore_14 (fun Y_4 H locs e_5 hH => ?_)
    have hq := bk_let_eq e_5 hq
    refine lv_aload_n hx hb dX11_restore_17 rfl (lv_at hl 0 rfl) ?_
    refine lv_aload_n hx hb dX11_restore_18 rfl (lv_at hl 0 rfl) ?_
    refine bk_geti C hH fl_RX11_105 (by rw [e_5]; exact hs_1) rfl dX11_restore_19 ?_
    refine bk_puti C hH fp_RX11_99 (fun h => by cases h) (by rw [e_5]; exact hs_1) rfl dX11_restore_22 (fun V_6 H locs e_7 hH => ?_)
    have hq := bk_let_eq e_7 hq
    refine lv_aload_n hx hb dX11_restore_25 rfl (lv_at hl 0 rfl) ?_
    obtain ⟨b_8, hr_9, hq⟩ := bk_bd_some hq
    refine bk_getr C hH fl_RX11_19 (by rw [e_5]; exact hs_1) rfl hr_9 dX11_restore_26 ?_
    obtain ⟨hs_12, hq⟩ := bk_ck_some hq
    obtain ⟨V_11, hr_10, hq⟩ := bk_bd_some hq
    refine bk_callV (rest := []) (As := []) (ro := none) (Y1 := Y_4) (V1 := V_11) C hH hl.1 (c_X3_forget hr_10) mc_X3_forget mv_X3_forget lk_RX11_112 hs_12 rfl rfl ⟨rfl, rfl⟩ ⟨by decide, by decide⟩ rfl (Nat.le_of_ble_eq_true rfl) dX11_restore_29 ⟨by decide, by decide⟩ (fun H locs hH => ?_)
    refine lv_iconst (v := 1) hx hb dX11_restore_32 (by decide) ?_
    cases hq
    exact bk_zret C hH (Or.inr rfl) dX11_restore_33
set_option maxRecDepth 100000 in
theorem c_X11_restore {l : Launch} {G : bk_G} {N : Nat} {Y : bk_Lay} {V : bk_Val} {a0 : Nat} {out : Int32 × bk_Lay × bk_Val} (hq : q_X11_restore N Y V a0 = some out) : Met l yX11_restore (bk_ws yX11_restore cX11_restore 1 (some FieldType.boolean)) rm_X11_restore (bk_Pc G [.ref a0] Y V) (bk_Q G (some (.int out.1)) out.2.1 out.2.2) 0 0 (bk_A G) :=
  bk_met (by decide) (Nat.le_of_ble_eq_true rfl) (fun p e s m args below meth c ls C hnm hH hl => w_X11_restore C _ _ _ _ _ _ _ hl hH hq)

def rm_X11_plan : Room := bk_rm 9 1 6 220
set_option maxRecDepth 100000 in
set_option maxHeartbeats 4000000 in
theorem w_X11_plan_58 {XC : String → State → State → Prop} (C : bk_C G p s m args meth c cX11_plan RX11 5 (some FieldType.int)) (hst : l.stackTraces = false) (hT9 : ∀ x ∈ c.exceptionTable.toList, False) (k27 : bk_Lay → bk_Val → Nat → Int32 → Int32 → Int32 → Option (Nat ⊕ (Int32 × bk_Lay × bk_Val))) (i27 : ∀ (Y : bk_Lay) (V : bk_Val) (a0 : Nat) (x1 : Int32) (x2 : Int32) (x3 : Int32) (H : Heap) (locs : List Loc) (ls : Array Slot) (out : Nat ⊕ (Int32 × bk_Lay × bk_Val)), lv_has ls 5 [(0, .ref a0), (1, .int x1), (2, .int x2), (3, .int x3)] → bk_H G Y V s.heap H locs → k27 Y V a0 x1 x2 x3 = some out → W p l e rm_X11_plan s m args below meth c H locs 1 6 (vx_MQ below (bk_QX (fun (o : Int32 × bk_Lay × bk_Val) => bk_Q G (some (.int o.1)) o.2.1 o.2.2) out) XC args s 1 6 (bk_A G)) (F0 m 27 ls [])) : ∀ (Y : bk_Lay) (V : bk_Val) (a0 : Nat) (x1 : Int32) (x3 : Int32) (x4 : Int32) (sx0 : Int32) (sx1 : Int32) (H : Heap) (locs : List Loc) (ls : Array Slot) (out : Nat ⊕ (Int32 × bk_Lay × bk_Val)), lv_has ls 5 [(0, .ref a0), (1, .int x1), (3, .int x3), (4, .int x4)] → bk_H G Y V s.heap H locs → q_X11_plan_58 N k27 Y V a0 x1 x3 x4 sx0 sx1 = some out → W p l e rm_X11_plan s m args below meth c H locs 1 6 (vx_MQ below (bk_QX (fun (o : Int32 × bk_Lay × bk_Val) => bk_Q G (some (.int o.1)) o.2.1 o.2.2) out) XC args s 1 6 (bk_A G)) (F0 m 58 ls [.int sx1, .int sx0]) := by
  have hx := C.1
  have hb := C.2.1
  intro Y V a0 x1 x3 x4 sx0 sx1 H locs ls out hl hH hq
  unfold q_X11_plan_58 at hq
  refine lv_iadd hx hb dX11_plan_58 ?_
  refine lv_istore_n (lv' := [(2, .int (sx0 + sx1)), (0, .ref a0), (1, .int x1), (3, .int x3), (4, .int x4)]) hx hb dX11_plan_59 rfl hl (by decide) rfl (fun ls hl => ?_)
  refine lv_aload_n hx hb dX11_plan_60 rfl (lv_at hl 1 rfl) ?_
  obtain ⟨hs_1, hq⟩ := bk_ck_some hq
  obtain ⟨b_2, hr_3, hq⟩ := bk_bd_some hq
  refine bk_getr C hH fl_RX11_23 hs_1 rfl hr_3 dX11_plan_61 ?_
  refine lv_iload hx hb dX11_plan_64 (lv_at hl 4 rfl) ?_
  refine lv_dup2_11 hx hb dX11_plan_66 rfl rfl ?_
  obtain ⟨ha_4, hq⟩ := bk_ck_some hq
  obtain ⟨hi_5, hq⟩ := bk_ck_some hq
  refine bk_iald C hH (bk_arr ha_4) (bk_in_vp hi_5) dX11_plan_67 ?_
  refine lv_iconst (v := 1) hx hb dX11_plan_68 (by decide) ?_
  refine lv_iadd hx hb dX11_plan_69 ?_
  obtain ⟨hi_6, hq⟩ := bk_ck_some hq
  refine bk_iast C hH (bk_arr ha_4) (bk_in_vp hi_6) dX11_plan_70 (fun V_7 H locs e_8 hH => ?_)
  have hq := bk_let_eq e_8 hq
  refine lv_iinc (v := (x3 + 1)) (lv' := [(3, .int (x3 + 1)), (2, .int (sx0 + sx1)), (0, .ref a0), (1, .int x1), (4, .int x4)]) hx hb dX11_plan_71 hl (k := 3) rfl rfl (by decide) rfl (fun ls hl => ?_)
  refine lv_goto (tgt := 27) hx hb dX11_plan_74 (by decide) ?_
  exact i27 _ _ _ _ _ _ _ _ _ _ (lv_sub hl [2, 3, 1, 0] rfl) hH hq

set_option maxRecDepth 100000 in
set_option maxHeartbeats 4000000 in
theorem w_X11_plan_27 {XC : String → State → State → Prop} (C : bk_C G p s m args meth c cX11_plan RX11 5 (some FieldType.int)) (hst : l.stackTraces = false) (hT9 : ∀ x ∈ c.exceptionTable.toList, False) : ∀ (n : Nat), ∀ (Y : bk_Lay) (V : bk_Val) (a0 : Nat) (x1 : Int32) (x2 : Int32) (x3 : Int32) (H : Heap) (locs : List Loc) (ls : Array Slot) (out : Nat ⊕ (Int32 × bk_Lay × bk_Val)), lv_has ls 5 [(0, .ref a0), (1, .int x1), (2, .int x2), (3, .int x3)] → bk_H G Y V s.heap H locs → q_X11_plan_27 N n Y V a0 x1 x2 x3 = some out → W p l e rm_X11_plan s m args below meth c H locs 1 6 (vx_MQ below (bk_QX (fun (o : Int32 × bk_Lay × bk_Val) => bk_Q G (some (.int o.1)) o.2.1 o.2.2) out) XC args s 1 6 (bk_A G)) (F0 m 27 ls []) := by
  have hx := C.1
  have hb := C.2.1
  intro n
  induction n with
  | zero =>
    intro Y V a0 x1 x2 x3 H locs ls out hl hH hq
    exact nomatch (show (none : Option (Nat ⊕ (Int32 × bk_Lay × bk_Val))) = some out from hq)
  | succ n ih =>
    intro Y V a0 x1 x2 x3 H locs ls out hl hH hq
    unfold q_X11_plan_27 at hq
    refine lv_iload_n hx hb dX11_plan_27 rfl (lv_at hl 3 rfl) ?_
    refine lv_iload_n hx hb dX11_plan_28 rfl (lv_at hl 1 rfl) ?_
    refine lv_icmp_ge (tgt := 77) hx hb dX11_plan_29 (by decide) (fun hc_24 => ?_) (fun hc_24 => ?_)
    · rw [if_pos hc_24] at hq
      refine lv_aload_n hx hb dX11_plan_77 rfl (lv_at hl 0 rfl) ?_
      refine lv_iconst (v := 1) hx hb dX11_plan_78 (by decide) ?_
      obtain ⟨hs_9, hq⟩ := bk_ck_some hq
      refine bk_putz C hH fp_RX11_108 (fun h => by cases h) hs_9 rfl (Or.inr rfl) dX11_plan_79 (fun V_10 H locs e_11 hH => ?_)
      have hq := bk_let_eq e_11 hq
      refine lv_iload_n hx hb dX11_plan_82 rfl (lv_at hl 2 rfl) ?_
      refine vx_ret ?_
      cases hq
      exact bk_iret C hH dX11_plan_83
    · rw [if_neg hc_24] at hq
      refine lv_aload_n hx hb dX11_plan_32 rfl (lv_at hl 0 rfl) ?_
      obtain ⟨hs_12, hq⟩ := bk_ck_some hq
      obtain ⟨b_13, hr_14, hq⟩ := bk_bd_some hq
      refine bk_getr C hH fl_RX11_19 hs_12 rfl hr_14 dX11_plan_33 ?_
      refine lv_iload_n hx hb dX11_plan_36 rfl (lv_at hl 3 rfl) ?_
      obtain ⟨hs_18, hq⟩ := bk_ck_some hq
      obtain ⟨r_16, V_17, hr_15, hq⟩ := bk_bd2_some hq
      refine bk_callV (rest := []) (As := [.int x3]) (ro := (some (.int r_16))) (Y1 := Y) (V1 := V_17) C hH hl.1 (c_X3_inchIn hr_15) mc_X3_inchIn mv_X3_inchIn lk_RX11_289 hs_18 rfl rfl ⟨rfl, rfl⟩ ⟨by decide, by decide⟩ rfl (Nat.le_of_ble_eq_true rfl) dX11_plan_37 ⟨by decide, by decide⟩ (fun H locs hH => ?_)
      refine lv_istore (lv' := [(4, .int r_16), (0, .ref a0), (1, .int x1), (2, .int x2), (3, .int x3)]) hx hb dX11_plan_40 hl (by decide) rfl (fun ls hl => ?_)
      refine lv_iload_n hx hb dX11_plan_42 rfl (lv_at hl 3 rfl) ?_
      refine lv_aload_n hx hb dX11_plan_43 rfl (lv_at hl 1 rfl) ?_
      obtain ⟨b_19, hr_20, hq⟩ := bk_bd_some hq
      refine bk_getr C hH fl_RX11_23 hs_12 rfl hr_20 dX11_plan_44 ?_
      refine lv_iload hx hb dX11_plan_47 (lv_at hl 0 rfl) ?_
      obtain ⟨ha_21, hq⟩ := bk_ck_some hq
      obtain ⟨hi_22, hq⟩ := bk_ck_some hq
      refine bk_iald C hH (bk_arr ha_21) (bk_in_vp hi_22) dX11_plan_49 ?_
      refine lv_if_ne (tgt := 57) hx hb dX11_plan_50 (by decide) (fun hc_23 => ?_) (fun hc_23 => ?_)
      · rw [if_neg hc_23] at hq
        refine lv_iconst (v := 0) hx hb dX11_plan_57 (by decide) ?_
        exact w_X11_plan_58 C hst hT9 _ ih _ _ _ _ _ _ _ _ _ _ _ _ (lv_sub hl [1, 2, 4, 0] rfl) hH hq
      · rw [if_pos hc_23] at hq
        refine lv_iconst (v := 1) hx hb dX11_plan_53 (by decide) ?_
        refine lv_goto (tgt := 58) hx hb dX11_plan_54 (by decide) ?_
        exact w_X11_plan_58 C hst hT9 _ ih _ _ _ _ _ _ _ _ _ _ _ _ (lv_sub hl [1, 2, 4, 0] rfl) hH hq

set_option maxRecDepth 100000 in
set_option maxHeartbeats 4000000 in
theorem w_X11_plan (C : bk_C G p s m args meth c cX11_plan RX11 5 (some FieldType.int)) (hst : l.stackTraces = false) (hT9 : ∀ x ∈ c.exceptionTable.toList, False) : ∀ (Y : bk_Lay) (V : bk_Val) (a0 : Nat) (x1 : Int32) (H : Heap) (locs : List Loc) (ls : Array Slot) (out : Nat ⊕ (Int32 × bk_Lay × bk_Val)), lv_has ls 5 [(0, .ref a0), (1, .int x1)] → bk_H G Y V s.heap H locs → q_X11_plan N Y V a0 x1 = some out → W p l e rm_X11_plan s m args below meth c H locs 0 0 (vx_MQ below (bk_QX (fun (o : Int32 × bk_Lay × bk_Val) => bk_Q G (some (.int o.1)) o.2.1 o.2.2) out) (bk_XC G Y V out) args s 1 6 (bk_A G)) (F0 m 0 ls []) := by
  have hx := C.1
  have hb := C.2.1
  intro Y V a0 x1 H locs ls out hl hH hq
  unfold q_X11_plan at hq
  refine lv_iload_n hx hb dX11_plan_0 rfl (lv_at hl 1 rfl) ?_
  refine lv_iconst (v := 0) hx hb dX11_plan_1 (by decide) ?_
  refine lv_sipush (v := 600) hx hb dX11_plan_2 (by decide) ?_
  obtain ⟨r_26, hr_25, hq⟩ := bk_bd_some hq
  refine bk_callS (rest := []) (As := [.int x1, .int 0, .int 600]) (ro := (some (.int r_26))) (Y1 := Y) (V1 := V) C hH hl.1 (c_X11_isWithin hr_25) mc_X11_isWithin st_X11_isWithin lk_RX11_78 rfl ⟨rfl, rfl⟩ ⟨by decide, by decide⟩ rfl (Nat.le_of_ble_eq_true rfl) dX11_plan_5 ⟨by decide, by decide⟩ (fun H locs hH => ?_)
  rcases bk_bdx_cases hq with ⟨x9_28, hr_27, ho_29⟩ | ⟨u8, hr_27, hq⟩
  · exact bk_callSt (rest := []) (As := [.int r_26]) (e9 := x9_28) C hT9 hH hl.1 (c_X11_needArgument hst hr_27) ho_29 mc_X11_needArgument st_X11_needArgument ml_RX11_82 rfl ⟨rfl, rfl⟩ ⟨by decide, by decide⟩ rfl (Nat.le_of_ble_eq_true rfl) dX11_plan_8 ⟨by decide, by decide⟩ (by decide) (by decide)
  · refine bk_callSr (rest := []) (As := [.int r_26]) (o1 := u8) (ro := none) (Y1 := Y) (V1 := V) rfl C hH hl.1 (c_X11_needArgument hst hr_27) mc_X11_needArgument st_X11_needArgument ml_RX11_82 rfl ⟨rfl, rfl⟩ ⟨by decide, by decide⟩ rfl (Nat.le_of_ble_eq_true rfl) dX11_plan_8 ⟨by decide, by decide⟩ (fun H locs hH => ?_)
    refine W.widen (k := 1) (n := 6) (by decide) (by decide) ?_
    refine lv_aload_n hx hb dX11_plan_11 rfl (lv_at hl 0 rfl) ?_
    obtain ⟨hs_33, hq⟩ := bk_ck_some hq
    obtain ⟨Y_31, V_32, hr_30, hq⟩ := bk_bd2_some hq
    refine bk_callV (rest := []) (As := []) (ro := none) (Y1 := Y_31) (V1 := V_32) C hH hl.1 (c_X11_setOut hr_30) mc_X11_setOut mv_X11_setOut lk_RX11_286 hs_33 rfl rfl ⟨rfl, rfl⟩ ⟨by decide, by decide⟩ rfl (Nat.le_of_ble_eq_true rfl) dX11_plan_12 ⟨by decide, by decide⟩ (fun H locs hH => ?_)
    refine lv_aload_n hx hb dX11_plan_15 rfl (lv_at hl 0 rfl) ?_
    obtain ⟨hs_34, hq⟩ := bk_ck_some hq
    obtain ⟨b_35, hr_36, hq⟩ := bk_bd_some hq
    refine bk_getr C hH fl_RX11_23 hs_34 rfl hr_36 dX11_plan_16 ?_
    refine lv_iconst (v := 0) hx hb dX11_plan_19 (by decide) ?_
    obtain ⟨V_38, hr_37, hq⟩ := bk_bd_some hq
    refine bk_callS (rest := []) (As := [.ref b_35, .int 0]) (ro := none) (Y1 := Y_31) (V1 := V_38) C hH hl.1 (c_J7_fill_53178 hr_37) mc_J7_fill_53178 st_J7_fill_53178 lk_RX11_295 rfl ⟨rfl, rfl⟩ ⟨by decide, by decide⟩ rfl (Nat.le_of_ble_eq_true rfl) dX11_plan_20 ⟨by decide, by decide⟩ (fun H locs hH => ?_)
    refine lv_iconst (v := 0) hx hb dX11_plan_23 (by decide) ?_
    refine lv_istore_n (lv' := [(2, .int 0), (0, .ref a0), (1, .int x1)]) hx hb dX11_plan_24 rfl hl (by decide) rfl (fun ls hl => ?_)
    refine lv_iconst (v := 0) hx hb dX11_plan_25 (by decide) ?_
    refine lv_istore_n (lv' := [(3, .int 0), (2, .int 0), (0, .ref a0), (1, .int x1)]) hx hb dX11_plan_26 rfl hl (by decide) rfl (fun ls hl => ?_)
    exact w_X11_plan_27 C hst hT9 _ _ _ _ _ _ _ _ _ _ _ (lv_sub hl [2, 3, 1, 0] rfl) hH hq
set_option maxRecDepth 100000 in
theorem c_X11_plan {l : Launch} {G : bk_G} {N : Nat} {Y : bk_Lay} {V : bk_Val} (hst : l.stackTraces = false) {a0 : Nat} {x1 : Int32} {out : Nat ⊕ (Int32 × bk_Lay × bk_Val)} (hq : q_X11_plan N Y V a0 x1 = some out) : vx_Met l yX11_plan (bk_ws yX11_plan cX11_plan 5 (some FieldType.int)) rm_X11_plan (bk_Pc G [.ref a0, .int x1] Y V) (bk_QX (fun (o : Int32 × bk_Lay × bk_Val) => bk_Q G (some (.int o.1)) o.2.1 o.2.2) out) (bk_XC G Y V out) 1 6 (bk_A G) :=
  bk_metx (by decide) (Nat.le_of_ble_eq_true rfl) (fun p e s m args below meth c ls C hT9 hH hl => w_X11_plan C hst hT9 _ _ _ _ _ _ _ _ hl hH hq)

def rm_X11_image : Room := bk_rm 0 0 0 0
set_option maxRecDepth 100000 in
set_option maxHeartbeats 4000000 in
theorem w_X11_image (C : bk_C G p s m args meth c cX11_image RX11 1 (none : Option FieldType)) : ∀ (Y : bk_Lay) (V : bk_Val) (a0 : Nat) (H : Heap) (locs : List Loc) (ls : Array Slot) (out : bk_Lay × bk_Val), lv_has ls 1 [(0, .ref a0)] → bk_H G Y V s.heap H locs → q_X11_image N Y V a0 = some out → W p l e rm_X11_image s m args below meth c H locs 0 0 (MQ below (bk_Q G none out.1 out.2) args s 0 0 (bk_A G)) (F0 m 0 ls []) := by
  have hx := C.1
  have hb := C.2.1
  intro Y V a0 H locs ls out hl hH hq
  unfold q_X11_image at hq
  refine lv_aload_n hx hb dX11_image_0 rfl (lv_at hl 0 rfl) ?_
  refine lv_aload_n hx hb dX11_image_1 rfl (lv_at hl 0 rfl) ?_
  obtain ⟨hs_1, hq⟩ := bk_ck_some hq
  obtain ⟨b_2, hr_3, hq⟩ := bk_bd_some hq
  refine bk_getr C hH fl_RX11_63 hs_1 rfl hr_3 dX11_image_2 ?_
  refine bk_putr C hH fp_RX11_102 (fun h => by cases h) hs_1 rfl rfl rfl dX11_image_5 (fun Y_4 H locs e_5 hH => ?_)
  have hq := bk_let_eq e_5 hq
  refine lv_aload_n hx hb dX11_image_8 rfl (lv_at hl 0 rfl) ?_
  refine lv_aload_n hx hb dX11_image_9 rfl (lv_at hl 0 rfl) ?_
  refine bk_geti C hH fl_RX11_99 (by rw [e_5]; exact hs_1) rfl dX11_image_10 ?_
  refine bk_puti C hH fp_RX11_105 (fun h => by cases h) (by rw [e_5]; exact hs_1) rfl dX11_image_13 (fun V_6 H locs e_7 hH => ?_)
  have hq := bk_let_eq e_7 hq
  cases hq
  exact bk_vret C hH dX11_image_16
set_option maxRecDepth 100000 in
theorem c_X11_image {l : Launch} {G : bk_G} {N : Nat} {Y : bk_Lay} {V : bk_Val} {a0 : Nat} {out : bk_Lay × bk_Val} (hq : q_X11_image N Y V a0 = some out) : Met l yX11_image (bk_ws yX11_image cX11_image 1 (none : Option FieldType)) rm_X11_image (bk_Pc G [.ref a0] Y V) (bk_Q G none out.1 out.2) 0 0 (bk_A G) :=
  bk_met (by decide) (Nat.le_of_ble_eq_true rfl) (fun p e s m args below meth c ls C hnm hH hl => w_X11_image C _ _ _ _ _ _ _ hl hH hq)

def rm_X11_shed : Room := bk_rm 86 3 347 1979
set_option maxRecDepth 100000 in
set_option maxHeartbeats 4000000 in
theorem w_X11_shed (C : bk_C G p s m args meth c cX11_shed RX11 3 (some FieldType.int)) (hst : l.stackTraces = false) (hT9 : ∀ x ∈ c.exceptionTable.toList, False) : ∀ (Y : bk_Lay) (V : bk_Val) (a0 : Nat) (x1 : Int32) (H : Heap) (locs : List Loc) (ls : Array Slot) (out : Nat ⊕ (Int32 × bk_Lay × bk_Val)), lv_has ls 3 [(0, .ref a0), (1, .int x1)] → bk_H G Y V s.heap H locs → q_X11_shed N Y V a0 x1 = some out → W p l e rm_X11_shed s m args below meth c H locs 0 0 (vx_MQ below (bk_QX (fun (o : Int32 × bk_Lay × bk_Val) => bk_Q G (some (.int o.1)) o.2.1 o.2.2) out) (bk_XC G Y V out) args s 3 347 (bk_A G)) (F0 m 0 ls []) := by
  have hx := C.1
  have hb := C.2.1
  intro Y V a0 x1 H locs ls out hl hH hq
  unfold q_X11_shed at hq
  refine lv_iload_n hx hb dX11_shed_0 rfl (lv_at hl 1 rfl) ?_
  refine lv_iconst (v := 0) hx hb dX11_shed_1 (by decide) ?_
  refine lv_aload_n hx hb dX11_shed_2 rfl (lv_at hl 0 rfl) ?_
  obtain ⟨hs_1, hq⟩ := bk_ck_some hq
  obtain ⟨b_2, hr_3, hq⟩ := bk_bd_some hq
  refine bk_getr C hH fl_RX11_10 hs_1 rfl hr_3 dX11_shed_3 ?_
  obtain ⟨hs_4, hq⟩ := bk_ck_some hq
  refine bk_geti C hH fl_RX11_75 hs_4 rfl dX11_shed_6 ?_
  obtain ⟨r_6, hr_5, hq⟩ := bk_bd_some hq
  refine bk_callS (rest := []) (As := [.int x1, .int 0, .int (bk_rI V b_2 1)]) (ro := (some (.int r_6))) (Y1 := Y) (V1 := V) C hH hl.1 (c_X11_isWithin hr_5) mc_X11_isWithin st_X11_isWithin lk_RX11_78 rfl ⟨rfl, rfl⟩ ⟨by decide, by decide⟩ rfl (Nat.le_of_ble_eq_true rfl) dX11_shed_9 ⟨by decide, by decide⟩ (fun H locs hH => ?_)
  rcases bk_bdx_cases hq with ⟨x9_8, hr_7, ho_9⟩ | ⟨u12, hr_7, hq⟩
  · exact bk_callSt (rest := []) (As := [.int r_6]) (e9 := x9_8) C hT9 hH hl.1 (c_X11_needArgument hst hr_7) ho_9 mc_X11_needArgument st_X11_needArgument ml_RX11_82 rfl ⟨rfl, rfl⟩ ⟨by decide, by decide⟩ rfl (Nat.le_of_ble_eq_true rfl) dX11_shed_12 ⟨by decide, by decide⟩ (by decide) (by decide)
  · refine bk_callSr (rest := []) (As := [.int r_6]) (o1 := u12) (ro := none) (Y1 := Y) (V1 := V) rfl C hH hl.1 (c_X11_needArgument hst hr_7) mc_X11_needArgument st_X11_needArgument ml_RX11_82 rfl ⟨rfl, rfl⟩ ⟨by decide, by decide⟩ rfl (Nat.le_of_ble_eq_true rfl) dX11_shed_12 ⟨by decide, by decide⟩ (fun H locs hH => ?_)
    refine W.widen (k := 1) (n := 6) (by decide) (by decide) ?_
    refine lv_aload_n hx hb dX11_shed_15 rfl (lv_at hl 0 rfl) ?_
    refine bk_getr C hH fl_RX11_10 hs_1 rfl hr_3 dX11_shed_16 ?_
    refine lv_iconst (v := 0) hx hb dX11_shed_19 (by decide) ?_
    refine bk_puti C hH fp_RX11_75 (fun h => by cases h) hs_4 rfl dX11_shed_20 (fun V_10 H locs e_11 hH => ?_)
    have hq := bk_let_eq e_11 hq
    refine lv_aload_n hx hb dX11_shed_23 rfl (lv_at hl 0 rfl) ?_
    obtain ⟨b_12, hr_13, hq⟩ := bk_bd_some hq
    refine bk_getr C hH fl_RX11_53 hs_1 rfl hr_13 dX11_shed_24 ?_
    refine lv_iload_n hx hb dX11_shed_27 rfl (lv_at hl 1 rfl) ?_
    refine lv_aload_n hx hb dX11_shed_28 rfl (lv_at hl 0 rfl) ?_
    obtain ⟨b_14, hr_15, hq⟩ := bk_bd_some hq
    refine bk_getr C hH fl_RX11_37 hs_1 rfl hr_15 dX11_shed_29 ?_
    obtain ⟨hs_20, hq⟩ := bk_ck_some hq
    obtain ⟨r_17, Y_18, V_19, hr_16, hq⟩ := bk_bd3_some hq
    refine bk_callV (rest := []) (As := [.int x1, .ref b_14]) (ro := (some (.int r_17))) (Y1 := Y_18) (V1 := V_19) C hH hl.1 (c_X8_tell hr_16) mc_X8_tell mv_X8_tell lk_RX11_86 hs_20 rfl rfl ⟨rfl, rfl⟩ ⟨by decide, by decide⟩ rfl (Nat.le_of_ble_eq_true rfl) dX11_shed_32 ⟨by decide, by decide⟩ (fun H locs hH => ?_)
    refine lv_istore_n (lv' := [(2, .int r_17), (0, .ref a0), (1, .int x1)]) hx hb dX11_shed_35 rfl hl (by decide) rfl (fun ls hl => ?_)
    refine lv_iload_n hx hb dX11_shed_36 rfl (lv_at hl 0 rfl) ?_
    refine lv_if_eq (tgt := 63) hx hb dX11_shed_37 (by decide) (fun hc_35 => ?_) (fun hc_35 => ?_)
    · rw [if_pos hc_35] at hq
      refine lv_aload_n hx hb dX11_shed_63 rfl (lv_at hl 1 rfl) ?_
      refine lv_iconst (v := (-1)) hx hb dX11_shed_64 (by decide) ?_
      obtain ⟨hs_21, hq⟩ := bk_ck_some hq
      refine bk_puti C hH fp_RX11_40 (fun h => by cases h) hs_21 rfl dX11_shed_65 (fun V_22 H locs e_23 hH => ?_)
      have hq := bk_let_eq e_23 hq
      refine lv_aload_n hx hb dX11_shed_68 rfl (lv_at hl 1 rfl) ?_
      obtain ⟨Y_25, V_26, hr_24, hq⟩ := bk_bd2_some hq
      refine bk_callV (rest := []) (As := []) (ro := none) (Y1 := Y_25) (V1 := V_26) C hH hl.1 (c_X11_beginAnew hr_24) mc_X11_beginAnew mv_X11_beginAnew lk_RX11_96 hs_21 rfl rfl ⟨rfl, rfl⟩ ⟨by decide, by decide⟩ rfl (Nat.le_of_ble_eq_true rfl) dX11_shed_69 ⟨by decide, by decide⟩ (fun H locs hH => ?_)
      refine W.widen (k := 3) (n := 347) (by decide) (by decide) ?_
      refine lv_iconst (v := 0) hx hb dX11_shed_72 (by decide) ?_
      refine vx_ret ?_
      cases hq
      exact bk_iret C hH dX11_shed_73
    · rw [if_neg hc_35] at hq
      refine lv_aload_n hx hb dX11_shed_40 rfl (lv_at hl 1 rfl) ?_
      refine lv_aload_n hx hb dX11_shed_41 rfl (lv_at hl 1 rfl) ?_
      obtain ⟨hs_27, hq⟩ := bk_ck_some hq
      obtain ⟨b_28, hr_29, hq⟩ := bk_bd_some hq
      refine bk_getr C hH fl_RX11_53 hs_27 rfl hr_29 dX11_shed_42 ?_
      obtain ⟨hs_30, hq⟩ := bk_ck_some hq
      refine bk_geti C hH fl_RX11_90 hs_30 rfl dX11_shed_45 ?_
      refine bk_puti C hH fp_RX11_40 (fun h => by cases h) hs_27 rfl dX11_shed_48 (fun V_31 H locs e_32 hH => ?_)
      have hq := bk_let_eq e_32 hq
      refine lv_aload_n hx hb dX11_shed_51 rfl (lv_at hl 1 rfl) ?_
      refine lv_dup hx hb dX11_shed_52 rfl ?_
      refine bk_geti C hH fl_RX11_93 hs_27 rfl dX11_shed_53 ?_
      refine lv_iconst (v := 1) hx hb dX11_shed_56 (by decide) ?_
      refine lv_iadd hx hb dX11_shed_57 ?_
      refine bk_puti C hH fp_RX11_93 (fun h => by cases h) hs_27 rfl dX11_shed_58 (fun V_33 H locs e_34 hH => ?_)
      have hq := bk_let_eq e_34 hq
      refine lv_iload_n hx hb dX11_shed_61 rfl (lv_at hl 0 rfl) ?_
      refine W.widen (k := 3) (n := 347) (by decide) (by decide) ?_
      refine vx_ret ?_
      cases hq
      exact bk_iret C hH dX11_shed_62
set_option maxRecDepth 100000 in
theorem c_X11_shed {l : Launch} {G : bk_G} {N : Nat} {Y : bk_Lay} {V : bk_Val} (hst : l.stackTraces = false) {a0 : Nat} {x1 : Int32} {out : Nat ⊕ (Int32 × bk_Lay × bk_Val)} (hq : q_X11_shed N Y V a0 x1 = some out) : vx_Met l yX11_shed (bk_ws yX11_shed cX11_shed 3 (some FieldType.int)) rm_X11_shed (bk_Pc G [.ref a0, .int x1] Y V) (bk_QX (fun (o : Int32 × bk_Lay × bk_Val) => bk_Q G (some (.int o.1)) o.2.1 o.2.2) out) (bk_XC G Y V out) 3 347 (bk_A G) :=
  bk_metx (by decide) (Nat.le_of_ble_eq_true rfl) (fun p e s m args below meth c ls C hT9 hH hl => w_X11_shed C hst hT9 _ _ _ _ _ _ _ _ hl hH hq)

def rm_X11_patch : Room := bk_rm 10 3 17 241
set_option maxRecDepth 100000 in
set_option maxHeartbeats 4000000 in
theorem w_X11_patch_118 {XC : String → State → State → Prop} (C : bk_C G p s m args meth c cX11_patch RX11 8 (some FieldType.boolean)) (hst : l.stackTraces = false) (hT9 : ∀ x ∈ c.exceptionTable.toList, False) : ∀ (Y : bk_Lay) (V : bk_Val) (a0 : Nat) (x6 : Int32) (sa0 : Nat) (sx1 : Int32) (sx2 : Int32) (sx3 : Int32) (H : Heap) (locs : List Loc) (ls : Array Slot) (out : Nat ⊕ (Int32 × bk_Lay × bk_Val)), lv_has ls 8 [(0, .ref a0), (6, .int x6)] → bk_H G Y V s.heap H locs → q_X11_patch_118 N Y V a0 x6 sa0 sx1 sx2 sx3 = some out → W p l e rm_X11_patch s m args below meth c H locs 2 12 (vx_MQ below (bk_QX (fun (o : Int32 × bk_Lay × bk_Val) => bk_Q G (some (.int o.1)) o.2.1 o.2.2) out) XC args s 3 17 (bk_A G)) (F0 m 118 ls [.int sx3, .int sx2, .int sx1, .ref sa0]) := by
  have hx := C.1
  have hb := C.2.1
  intro Y V a0 x6 sa0 sx1 sx2 sx3 H locs ls out hl hH hq
  unfold q_X11_patch_118 at hq
  refine lv_aload_n hx hb dX11_patch_118 rfl (lv_at hl 0 rfl) ?_
  obtain ⟨hs_1, hq⟩ := bk_ck_some hq
  obtain ⟨b_2, hr_3, hq⟩ := bk_bd_some hq
  refine bk_getr C hH fl_RX11_63 hs_1 rfl hr_3 dX11_patch_119 ?_
  obtain ⟨hs_4, hq⟩ := bk_ck_some hq
  obtain ⟨b_5, hr_6, hq⟩ := bk_bd_some hq
  refine bk_getr C hH fl_RX11_193 hs_4 rfl hr_6 dX11_patch_122 ?_
  obtain ⟨hs_10, hq⟩ := bk_ck_some hq
  obtain ⟨Y_8, V_9, hr_7, hq⟩ := bk_bd2_some hq
  refine bk_callV (rest := []) (As := [.int sx1, .int sx2, .int sx3, .ref b_5]) (ro := none) (Y1 := Y_8) (V1 := V_9) C hH hl.1 (c_X11_keepAct hr_7) mc_X11_keepAct mv_X11_keepAct lk_RX11_197 hs_10 rfl rfl ⟨rfl, rfl⟩ ⟨by decide, by decide⟩ rfl (Nat.le_of_ble_eq_true rfl) dX11_patch_125 ⟨by decide, by decide⟩ (fun H locs hH => ?_)
  refine W.widen (k := 3) (n := 17) (by decide) (by decide) ?_
  refine lv_iload hx hb dX11_patch_128 (lv_at hl 1 rfl) ?_
  refine vx_ret ?_
  obtain ⟨hz9, hq⟩ := bk_ck_some hq
  cases hq
  exact bk_zret C hH hz9 dX11_patch_130

set_option maxRecDepth 100000 in
set_option maxHeartbeats 4000000 in
theorem w_X11_patch_66 {XC : String → State → State → Prop} (C : bk_C G p s m args meth c cX11_patch RX11 8 (some FieldType.boolean)) (hst : l.stackTraces = false) (hT9 : ∀ x ∈ c.exceptionTable.toList, False) : ∀ (Y : bk_Lay) (V : bk_Val) (a0 : Nat) (x1 : Int32) (sx0 : Int32) (H : Heap) (locs : List Loc) (ls : Array Slot) (out : Nat ⊕ (Int32 × bk_Lay × bk_Val)), lv_has ls 8 [(0, .ref a0), (1, .int x1)] → bk_H G Y V s.heap H locs → q_X11_patch_66 N Y V a0 x1 sx0 = some out → W p l e rm_X11_patch s m args below meth c H locs 2 12 (vx_MQ below (bk_QX (fun (o : Int32 × bk_Lay × bk_Val) => bk_Q G (some (.int o.1)) o.2.1 o.2.2) out) XC args s 3 17 (bk_A G)) (F0 m 66 ls [.int sx0]) := by
  have hx := C.1
  have hb := C.2.1
  intro Y V a0 x1 sx0 H locs ls out hl hH hq
  unfold q_X11_patch_66 at hq
  refine lv_istore (lv' := [(6, .int sx0), (0, .ref a0), (1, .int x1)]) hx hb dX11_patch_66 hl (by decide) rfl (fun ls hl => ?_)
  refine lv_iconst (v := 1) hx hb dX11_patch_68 (by decide) ?_
  refine lv_iload_n hx hb dX11_patch_69 rfl (lv_at hl 2 rfl) ?_
  refine bk_ishl hx hb dX11_patch_70 ?_
  refine lv_istore (lv' := [(7, .int (bk_shl 1 x1)), (6, .int sx0), (0, .ref a0), (1, .int x1)]) hx hb dX11_patch_71 hl (by decide) rfl (fun ls hl => ?_)
  refine lv_aload_n hx hb dX11_patch_73 rfl (lv_at hl 2 rfl) ?_
  refine lv_aload_n hx hb dX11_patch_74 rfl (lv_at hl 2 rfl) ?_
  obtain ⟨hs_11, hq⟩ := bk_ck_some hq
  obtain ⟨b_12, hr_13, hq⟩ := bk_bd_some hq
  refine bk_getr C hH fl_RX11_63 hs_11 rfl hr_13 dX11_patch_75 ?_
  obtain ⟨hs_14, hq⟩ := bk_ck_some hq
  refine bk_geti C hH fl_RX11_144 hs_14 rfl dX11_patch_78 ?_
  refine lv_aload_n hx hb dX11_patch_81 rfl (lv_at hl 2 rfl) ?_
  refine bk_getr C hH fl_RX11_63 hs_11 rfl hr_13 dX11_patch_82 ?_
  refine bk_geti C hH fl_RX11_147 hs_14 rfl dX11_patch_85 ?_
  refine lv_iload hx hb dX11_patch_88 (lv_at hl 1 rfl) ?_
  refine lv_if_eq (tgt := 106) hx hb dX11_patch_90 (by decide) (fun hc_15 => ?_) (fun hc_15 => ?_)
  · rw [if_pos hc_15] at hq
    refine lv_aload_n hx hb dX11_patch_106 rfl (lv_at hl 2 rfl) ?_
    refine bk_getr C hH fl_RX11_63 hs_11 rfl hr_13 dX11_patch_107 ?_
    refine bk_geti C hH fl_RX11_176 hs_14 rfl dX11_patch_110 ?_
    refine lv_iload hx hb dX11_patch_113 (lv_at hl 0 rfl) ?_
    refine lv_iconst (v := (-1)) hx hb dX11_patch_115 (by decide) ?_
    refine lv_ixor hx hb dX11_patch_116 ?_
    refine lv_iand hx hb dX11_patch_117 ?_
    exact w_X11_patch_118 C hst hT9 _ _ _ _ _ _ _ _ _ _ _ _ (lv_sub hl [2, 1] rfl) hH hq
  · rw [if_neg hc_15] at hq
    refine lv_aload_n hx hb dX11_patch_93 rfl (lv_at hl 2 rfl) ?_
    refine bk_getr C hH fl_RX11_63 hs_11 rfl hr_13 dX11_patch_94 ?_
    refine bk_geti C hH fl_RX11_176 hs_14 rfl dX11_patch_97 ?_
    refine lv_iload hx hb dX11_patch_100 (lv_at hl 0 rfl) ?_
    refine lv_ior hx hb dX11_patch_102 ?_
    refine lv_goto (tgt := 118) hx hb dX11_patch_103 (by decide) ?_
    exact w_X11_patch_118 C hst hT9 _ _ _ _ _ _ _ _ _ _ _ _ (lv_sub hl [2, 1] rfl) hH hq

set_option maxRecDepth 100000 in
set_option maxHeartbeats 4000000 in
theorem w_X11_patch_35 (C : bk_C G p s m args meth c cX11_patch RX11 8 (some FieldType.boolean)) (hst : l.stackTraces = false) (hT9 : ∀ x ∈ c.exceptionTable.toList, False) : ∀ (Y : bk_Lay) (V : bk_Val) (a0 : Nat) (x1 : Int32) (x2 : Int32) (x3 : Int32) (x4 : Int32) (x5 : Int32) (sx0 : Int32) (H : Heap) (locs : List Loc) (ls : Array Slot) (out : Nat ⊕ (Int32 × bk_Lay × bk_Val)), lv_has ls 8 [(0, .ref a0), (1, .int x1), (2, .int x2), (3, .int x3), (4, .int x4), (5, .int x5)] → bk_H G Y V s.heap H locs → q_X11_patch_35 N Y V a0 x1 x2 x3 x4 x5 sx0 = some out → W p l e rm_X11_patch s m args below meth c H locs 1 6 (vx_MQ below (bk_QX (fun (o : Int32 × bk_Lay × bk_Val) => bk_Q G (some (.int o.1)) o.2.1 o.2.2) out) (bk_XC G Y V out) args s 3 17 (bk_A G)) (F0 m 35 ls [.int sx0]) := by
  have hx := C.1
  have hb := C.2.1
  intro Y V a0 x1 x2 x3 x4 x5 sx0 H locs ls out hl hH hq
  unfold q_X11_patch_35 at hq
  rcases bk_bdx_cases hq with ⟨x9_17, hr_16, ho_18⟩ | ⟨u35, hr_16, hq⟩
  · exact bk_callSt (rest := []) (As := [.int sx0]) (e9 := x9_17) C hT9 hH hl.1 (c_X11_needArgument hst hr_16) ho_18 mc_X11_needArgument st_X11_needArgument ml_RX11_82 rfl ⟨rfl, rfl⟩ ⟨by decide, by decide⟩ rfl (Nat.le_of_ble_eq_true rfl) dX11_patch_35 ⟨by decide, by decide⟩ (by decide) (by decide)
  · refine bk_callSr (rest := []) (As := [.int sx0]) (o1 := u35) (ro := none) (Y1 := Y) (V1 := V) rfl C hH hl.1 (c_X11_needArgument hst hr_16) mc_X11_needArgument st_X11_needArgument ml_RX11_82 rfl ⟨rfl, rfl⟩ ⟨by decide, by decide⟩ rfl (Nat.le_of_ble_eq_true rfl) dX11_patch_35 ⟨by decide, by decide⟩ (fun H locs hH => ?_)
    refine W.widen (k := 2) (n := 12) (by decide) (by decide) ?_
    refine lv_iload hx hb dX11_patch_38 (lv_at hl 5 rfl) ?_
    obtain ⟨r_20, hr_19, hq⟩ := bk_bd_some hq
    refine bk_callS (rest := []) (As := [.int x5]) (ro := (some (.int r_20))) (Y1 := Y) (V1 := V) C hH hl.1 (c_X11_grownSeed hr_19) mc_X11_grownSeed st_X11_grownSeed lk_RX11_333 rfl ⟨rfl, rfl⟩ ⟨by decide, by decide⟩ rfl (Nat.le_of_ble_eq_true rfl) dX11_patch_40 ⟨by decide, by decide⟩ (fun H locs hH => ?_)
    obtain ⟨r_22, hr_21, hq⟩ := bk_bd_some hq
    refine bk_callS (rest := []) (As := [.int r_20]) (ro := (some (.int r_22))) (Y1 := Y) (V1 := V) C hH hl.1 (c_X11_drawOfHundred hr_21) mc_X11_drawOfHundred st_X11_drawOfHundred lk_RX11_336 rfl ⟨rfl, rfl⟩ ⟨by decide, by decide⟩ rfl (Nat.le_of_ble_eq_true rfl) dX11_patch_43 ⟨by decide, by decide⟩ (fun H locs hH => ?_)
    refine lv_aload_n hx hb dX11_patch_46 rfl (lv_at hl 0 rfl) ?_
    obtain ⟨hs_23, hq⟩ := bk_ck_some hq
    obtain ⟨b_24, hr_25, hq⟩ := bk_bd_some hq
    refine bk_getr C hH fl_RX11_33 hs_23 rfl hr_25 dX11_patch_47 ?_
    refine lv_iload_n hx hb dX11_patch_50 rfl (lv_at hl 1 rfl) ?_
    refine lv_iload_n hx hb dX11_patch_51 rfl (lv_at hl 2 rfl) ?_
    refine lv_iload_n hx hb dX11_patch_52 rfl (lv_at hl 3 rfl) ?_
    refine lv_iload hx hb dX11_patch_53 (lv_at hl 4 rfl) ?_
    obtain ⟨hs_29, hq⟩ := bk_ck_some hq
    obtain ⟨r_27, V_28, hr_26, hq⟩ := bk_bd2_some hq
    refine bk_callV (rest := [.int r_22]) (As := [.int x1, .int x2, .int x3, .int x4]) (ro := (some (.int r_27))) (Y1 := Y) (V1 := V_28) C hH hl.1 (c_X5_holdsBy hr_26) mc_X5_holdsBy mv_X5_holdsBy lk_RX11_350 hs_29 rfl rfl ⟨rfl, rfl⟩ ⟨by decide, by decide⟩ rfl (Nat.le_of_ble_eq_true rfl) dX11_patch_55 ⟨by decide, by decide⟩ (fun H locs hH => ?_)
    refine lv_icmp_ge (tgt := 65) hx hb dX11_patch_58 (by decide) (fun hc_30 => ?_) (fun hc_30 => ?_)
    · rw [if_pos hc_30] at hq
      refine lv_iconst (v := 0) hx hb dX11_patch_65 (by decide) ?_
      exact w_X11_patch_66 C hst hT9 _ _ _ _ _ _ _ _ _ (lv_sub hl [0, 1] rfl) hH hq
    · rw [if_neg hc_30] at hq
      refine lv_iconst (v := 1) hx hb dX11_patch_61 (by decide) ?_
      refine lv_goto (tgt := 66) hx hb dX11_patch_62 (by decide) ?_
      exact w_X11_patch_66 C hst hT9 _ _ _ _ _ _ _ _ _ (lv_sub hl [0, 1] rfl) hH hq

set_option maxRecDepth 100000 in
set_option maxHeartbeats 4000000 in
theorem w_X11_patch_34 (C : bk_C G p s m args meth c cX11_patch RX11 8 (some FieldType.boolean)) (hst : l.stackTraces = false) (hT9 : ∀ x ∈ c.exceptionTable.toList, False) : ∀ (Y : bk_Lay) (V : bk_Val) (a0 : Nat) (x1 : Int32) (x2 : Int32) (x3 : Int32) (x4 : Int32) (x5 : Int32) (H : Heap) (locs : List Loc) (ls : Array Slot) (out : Nat ⊕ (Int32 × bk_Lay × bk_Val)), lv_has ls 8 [(0, .ref a0), (1, .int x1), (2, .int x2), (3, .int x3), (4, .int x4), (5, .int x5)] → bk_H G Y V s.heap H locs → q_X11_patch_34 N Y V a0 x1 x2 x3 x4 x5 = some out → W p l e rm_X11_patch s m args below meth c H locs 1 6 (vx_MQ below (bk_QX (fun (o : Int32 × bk_Lay × bk_Val) => bk_Q G (some (.int o.1)) o.2.1 o.2.2) out) (bk_XC G Y V out) args s 3 17 (bk_A G)) (F0 m 34 ls []) := by
  have hx := C.1
  have hb := C.2.1
  intro Y V a0 x1 x2 x3 x4 x5 H locs ls out hl hH hq
  unfold q_X11_patch_34 at hq
  refine lv_iconst (v := 0) hx hb dX11_patch_34 (by decide) ?_
  exact w_X11_patch_35 C hst hT9 _ _ _ _ _ _ _ _ _ _ _ _ _ (lv_sub hl [0, 1, 2, 3, 4, 5] rfl) hH hq

set_option maxRecDepth 100000 in
set_option maxHeartbeats 4000000 in
theorem w_X11_patch (C : bk_C G p s m args meth c cX11_patch RX11 8 (some FieldType.boolean)) (hst : l.stackTraces = false) (hT9 : ∀ x ∈ c.exceptionTable.toList, False) : ∀ (Y : bk_Lay) (V : bk_Val) (a0 : Nat) (x1 : Int32) (x2 : Int32) (x3 : Int32) (x4 : Int32) (x5 : Int32) (H : Heap) (locs : List Loc) (ls : Array Slot) (out : Nat ⊕ (Int32 × bk_Lay × bk_Val)), lv_has ls 8 [(0, .ref a0), (1, .int x1), (2, .int x2), (3, .int x3), (4, .int x4), (5, .int x5)] → bk_H G Y V s.heap H locs → q_X11_patch N Y V a0 x1 x2 x3 x4 x5 = some out → W p l e rm_X11_patch s m args below meth c H locs 0 0 (vx_MQ below (bk_QX (fun (o : Int32 × bk_Lay × bk_Val) => bk_Q G (some (.int o.1)) o.2.1 o.2.2) out) (bk_XC G Y V out) args s 3 17 (bk_A G)) (F0 m 0 ls []) := by
  have hx := C.1
  have hb := C.2.1
  intro Y V a0 x1 x2 x3 x4 x5 H locs ls out hl hH hq
  unfold q_X11_patch at hq
  refine lv_aload_n hx hb dX11_patch_0 rfl (lv_at hl 0 rfl) ?_
  refine lv_iload_n hx hb dX11_patch_1 rfl (lv_at hl 1 rfl) ?_
  obtain ⟨hs_32, hq⟩ := bk_ck_some hq
  rcases bk_bdx_cases hq with ⟨x9_33, hr_31, ho_34⟩ | ⟨u2, hr_31, hq⟩
  · exact bk_callVt (rest := []) (As := [.int x1]) (e9 := x9_33) C hT9 hH hl.1 (c_X11_needHole hst hr_31) ho_34 mc_X11_needHole mv_X11_needHole ml_RX11_160 hs_32 rfl rfl ⟨rfl, rfl⟩ ⟨by decide, by decide⟩ rfl (Nat.le_of_ble_eq_true rfl) dX11_patch_2 ⟨by decide, by decide⟩ (by decide) (by decide)
  · refine bk_callVr (rest := []) (As := [.int x1]) (o1 := u2) (ro := none) (Y1 := Y) (V1 := V) rfl C hH hl.1 (c_X11_needHole hst hr_31) mc_X11_needHole mv_X11_needHole ml_RX11_160 hs_32 rfl rfl ⟨rfl, rfl⟩ ⟨by decide, by decide⟩ rfl (Nat.le_of_ble_eq_true rfl) dX11_patch_2 ⟨by decide, by decide⟩ (fun H locs hH => ?_)
    refine W.widen (k := 1) (n := 6) (by decide) (by decide) ?_
    refine lv_iload_n hx hb dX11_patch_5 rfl (lv_at hl 2 rfl) ?_
    refine lv_iconst (v := 0) hx hb dX11_patch_6 (by decide) ?_
    refine lv_bipush (v := 60) hx hb dX11_patch_7 (by decide) ?_
    obtain ⟨r_36, hr_35, hq⟩ := bk_bd_some hq
    refine bk_callS (rest := []) (As := [.int x2, .int 0, .int 60]) (ro := (some (.int r_36))) (Y1 := Y) (V1 := V) C hH hl.1 (c_X11_isWithin hr_35) mc_X11_isWithin st_X11_isWithin lk_RX11_78 rfl ⟨rfl, rfl⟩ ⟨by decide, by decide⟩ rfl (Nat.le_of_ble_eq_true rfl) dX11_patch_9 ⟨by decide, by decide⟩ (fun H locs hH => ?_)
    refine lv_if_eq (tgt := 34) hx hb dX11_patch_12 (by decide) (fun hc_43 => ?_) (fun hc_43 => ?_)
    · rw [if_pos hc_43] at hq
      exact w_X11_patch_34 C hst hT9 _ _ _ _ _ _ _ _ _ _ _ _ (lv_sub hl [0, 1, 2, 3, 4, 5] rfl) hH hq
    · rw [if_neg hc_43] at hq
      refine lv_iload_n hx hb dX11_patch_15 rfl (lv_at hl 3 rfl) ?_
      obtain ⟨r_38, hr_37, hq⟩ := bk_bd_some hq
      refine bk_callS (rest := []) (As := [.int x3]) (ro := (some (.int r_38))) (Y1 := Y) (V1 := V) C hH hl.1 (c_X11_isHundred hr_37) mc_X11_isHundred st_X11_isHundred lk_RX11_347 rfl ⟨rfl, rfl⟩ ⟨by decide, by decide⟩ rfl (Nat.le_of_ble_eq_true rfl) dX11_patch_16 ⟨by decide, by decide⟩ (fun H locs hH => ?_)
      refine lv_if_eq (tgt := 34) hx hb dX11_patch_19 (by decide) (fun hc_42 => ?_) (fun hc_42 => ?_)
      · rw [if_pos hc_42] at hq
        exact w_X11_patch_34 C hst hT9 _ _ _ _ _ _ _ _ _ _ _ _ (lv_sub hl [0, 1, 2, 3, 4, 5] rfl) hH hq
      · rw [if_neg hc_42] at hq
        refine lv_iload hx hb dX11_patch_22 (lv_at hl 4 rfl) ?_
        obtain ⟨r_40, hr_39, hq⟩ := bk_bd_some hq
        refine bk_callS (rest := []) (As := [.int x4]) (ro := (some (.int r_40))) (Y1 := Y) (V1 := V) C hH hl.1 (c_X11_isHundred hr_39) mc_X11_isHundred st_X11_isHundred lk_RX11_347 rfl ⟨rfl, rfl⟩ ⟨by decide, by decide⟩ rfl (Nat.le_of_ble_eq_true rfl) dX11_patch_24 ⟨by decide, by decide⟩ (fun H locs hH => ?_)
        refine lv_if_eq (tgt := 34) hx hb dX11_patch_27 (by decide) (fun hc_41 => ?_) (fun hc_41 => ?_)
        · rw [if_pos hc_41] at hq
          exact w_X11_patch_34 C hst hT9 _ _ _ _ _ _ _ _ _ _ _ _ (lv_sub hl [0, 1, 2, 3, 4, 5] rfl) hH hq
        · rw [if_neg hc_41] at hq
          refine lv_iconst (v := 1) hx hb dX11_patch_30 (by decide) ?_
          refine lv_goto (tgt := 35) hx hb dX11_patch_31 (by decide) ?_
          exact w_X11_patch_35 C hst hT9 _ _ _ _ _ _ _ _ _ _ _ _ _ (lv_sub hl [0, 1, 2, 3, 4, 5] rfl) hH hq
set_option maxRecDepth 100000 in
theorem c_X11_patch {l : Launch} {G : bk_G} {N : Nat} {Y : bk_Lay} {V : bk_Val} (hst : l.stackTraces = false) {a0 : Nat} {x1 : Int32} {x2 : Int32} {x3 : Int32} {x4 : Int32} {x5 : Int32} {out : Nat ⊕ (Int32 × bk_Lay × bk_Val)} (hq : q_X11_patch N Y V a0 x1 x2 x3 x4 x5 = some out) : vx_Met l yX11_patch (bk_ws yX11_patch cX11_patch 8 (some FieldType.boolean)) rm_X11_patch (bk_Pc G [.ref a0, .int x1, .int x2, .int x3, .int x4, .int x5] Y V) (bk_QX (fun (o : Int32 × bk_Lay × bk_Val) => bk_Q G (some (.int o.1)) o.2.1 o.2.2) out) (bk_XC G Y V out) 3 17 (bk_A G) :=
  bk_metx (by decide) (Nat.le_of_ble_eq_true rfl) (fun p e s m args below meth c ls C hT9 hH hl => w_X11_patch C hst hT9 _ _ _ _ _ _ _ _ _ _ _ _ hl hH hq)

def rm_X11_odds : Room := bk_rm 10 1 6 241
set_option maxRecDepth 100000 in
set_option maxHeartbeats 4000000 in
theorem w_X11_odds (C : bk_C G p s m args meth c cX11_odds RX11 2 (some FieldType.int)) (hst : l.stackTraces = false) (hT9 : ∀ x ∈ c.exceptionTable.toList, False) : ∀ (V : bk_Val) (a0 : Nat) (x1 : Int32) (H : Heap) (locs : List Loc) (ls : Array Slot) (out : Nat ⊕ (Int32)), lv_has ls 2 [(0, .ref a0), (1, .int x1)] → bk_H G Y V s.heap H locs → q_X11_odds N Y V a0 x1 = some out → W p l e rm_X11_odds s m args below meth c H locs 0 0 (vx_MQ below (bk_QX (fun (o : Int32) => bk_Q G (some (.int o)) Y V) out) (bk_XC G Y V out) args s 1 6 (bk_A G)) (F0 m 0 ls []) := by
  have hx := C.1
  have hb := C.2.1
  intro V a0 x1 H locs ls out hl hH hq
  unfold q_X11_odds at hq
  refine lv_aload_n hx hb dX11_odds_0 rfl (lv_at hl 0 rfl) ?_
  refine lv_iload_n hx hb dX11_odds_1 rfl (lv_at hl 1 rfl) ?_
  obtain ⟨hs_2, hq⟩ := bk_ck_some hq
  rcases bk_bdx_cases hq with ⟨x9_3, hr_1, ho_4⟩ | ⟨u2, hr_1, hq⟩
  · exact bk_callVt (rest := []) (As := [.int x1]) (e9 := x9_3) C hT9 hH hl.1 (c_X11_needPlace hst hr_1) ho_4 mc_X11_needPlace mv_X11_needPlace ml_RX11_261 hs_2 rfl rfl ⟨rfl, rfl⟩ ⟨by decide, by decide⟩ rfl (Nat.le_of_ble_eq_true rfl) dX11_odds_2 ⟨by decide, by decide⟩ (by decide) (by decide)
  · refine bk_callVr (rest := []) (As := [.int x1]) (o1 := u2) (ro := none) (Y1 := Y) (V1 := V) rfl C hH hl.1 (c_X11_needPlace hst hr_1) mc_X11_needPlace mv_X11_needPlace ml_RX11_261 hs_2 rfl rfl ⟨rfl, rfl⟩ ⟨by decide, by decide⟩ rfl (Nat.le_of_ble_eq_true rfl) dX11_odds_2 ⟨by decide, by decide⟩ (fun H locs hH => ?_)
    refine W.widen (k := 1) (n := 6) (by decide) (by decide) ?_
    refine lv_aload_n hx hb dX11_odds_5 rfl (lv_at hl 0 rfl) ?_
    obtain ⟨b_5, hr_6, hq⟩ := bk_bd_some hq
    refine bk_getr C hH fl_RX11_63 hs_2 rfl hr_6 dX11_odds_6 ?_
    obtain ⟨hs_7, hq⟩ := bk_ck_some hq
    obtain ⟨b_8, hr_9, hq⟩ := bk_bd_some hq
    refine bk_getr C hH fl_RX11_193 hs_7 rfl hr_9 dX11_odds_9 ?_
    refine lv_iload_n hx hb dX11_odds_12 rfl (lv_at hl 1 rfl) ?_
    obtain ⟨ha_10, hq⟩ := bk_ck_some hq
    obtain ⟨hi_11, hq⟩ := bk_ck_some hq
    refine bk_lald C hH (bk_arr ha_10) (bk_in_vp hi_11) dX11_odds_13 ?_
    refine lv_aload_n hx hb dX11_odds_14 rfl (lv_at hl 0 rfl) ?_
    refine bk_getr C hH fl_RX11_63 hs_2 rfl hr_6 dX11_odds_15 ?_
    refine bk_getr C hH fl_RX11_193 hs_7 rfl hr_9 dX11_odds_18 ?_
    obtain ⟨r_13, hr_12, hq⟩ := bk_bd_some hq
    refine bk_callS (rest := [.long (bk_rL V b_8 x1.toNatClampNeg)]) (As := [.ref b_8]) (ro := (some (.long r_13))) (Y1 := Y) (V1 := V) C hH hl.1 (c_X0_total hr_12) mc_X0_total st_X0_total lk_RX11_264 rfl ⟨rfl, rfl⟩ ⟨by decide, by decide⟩ rfl (Nat.le_of_ble_eq_true rfl) dX11_odds_21 ⟨by decide, by decide⟩ (fun H locs hH => ?_)
    obtain ⟨r_15, hr_14, hq⟩ := bk_bd_some hq
    refine bk_callS (rest := []) (As := [.long (bk_rL V b_8 x1.toNatClampNeg), .long r_13]) (ro := (some (.int r_15))) (Y1 := Y) (V1 := V) C hH hl.1 (c_X11_ofThousand hr_14) mc_X11_ofThousand st_X11_ofThousand lk_RX11_268 rfl ⟨rfl, rfl⟩ ⟨by decide, by decide⟩ rfl (Nat.le_of_ble_eq_true rfl) dX11_odds_24 ⟨by decide, by decide⟩ (fun H locs hH => ?_)
    refine vx_ret ?_
    cases hq
    exact bk_iret C hH dX11_odds_27
set_option maxRecDepth 100000 in
theorem c_X11_odds {l : Launch} {G : bk_G} {N : Nat} {Y : bk_Lay} {V : bk_Val} (hst : l.stackTraces = false) {a0 : Nat} {x1 : Int32} {out : Nat ⊕ (Int32)} (hq : q_X11_odds N Y V a0 x1 = some out) : vx_Met l yX11_odds (bk_ws yX11_odds cX11_odds 2 (some FieldType.int)) rm_X11_odds (bk_Pc G [.ref a0, .int x1] Y V) (bk_QX (fun (o : Int32) => bk_Q G (some (.int o)) Y V) out) (bk_XC G Y V out) 1 6 (bk_A G) :=
  bk_metx (by decide) (Nat.le_of_ble_eq_true rfl) (fun p e s m args below meth c ls C hT9 hH hl => w_X11_odds C hst hT9 _ _ _ _ _ _ _ hl hH hq)

def rm_X11_fits : Room := bk_rm 9 1 6 220
set_option maxRecDepth 100000 in
set_option maxHeartbeats 4000000 in
theorem w_X11_fits_88 {XC : String → State → State → Prop} (C : bk_C G p s m args meth c cX11_fits RX11 5 (some FieldType.int)) (hst : l.stackTraces = false) (hT9 : ∀ x ∈ c.exceptionTable.toList, False) (k12 : bk_Val → Nat → Int32 → Int32 → Int32 → Option (Nat ⊕ (Int32))) (i12 : ∀ (V : bk_Val) (a0 : Nat) (x1 : Int32) (x2 : Int32) (x3 : Int32) (H : Heap) (locs : List Loc) (ls : Array Slot) (out : Nat ⊕ (Int32)), lv_has ls 5 [(0, .ref a0), (1, .int x1), (2, .int x2), (3, .int x3)] → bk_H G Y V s.heap H locs → k12 V a0 x1 x2 x3 = some out → W p l e rm_X11_fits s m args below meth c H locs 1 6 (vx_MQ below (bk_QX (fun (o : Int32) => bk_Q G (some (.int o)) Y V) out) XC args s 1 6 (bk_A G)) (F0 m 12 ls [])) : ∀ (V : bk_Val) (a0 : Nat) (x1 : Int32) (x2 : Int32) (x3 : Int32) (H : Heap) (locs : List Loc) (ls : Array Slot) (out : Nat ⊕ (Int32)), lv_has ls 5 [(0, .ref a0), (1, .int x1), (2, .int x2), (3, .int x3)] → bk_H G Y V s.heap H locs → q_X11_fits_88 N Y k12 V a0 x1 x2 x3 = some out → W p l e rm_X11_fits s m args below meth c H locs 1 6 (vx_MQ below (bk_QX (fun (o : Int32) => bk_Q G (some (.int o)) Y V) out) XC args s 1 6 (bk_A G)) (F0 m 88 ls []) := by
  have hx := C.1
  have hb := C.2.1
  intro V a0 x1 x2 x3 H locs ls out hl hH hq
  unfold q_X11_fits_88 at hq
  refine lv_iinc (v := (x3 + 1)) (lv' := [(3, .int (x3 + 1)), (0, .ref a0), (1, .int x1), (2, .int x2)]) hx hb dX11_fits_88 hl (k := 3) rfl rfl (by decide) rfl (fun ls hl => ?_)
  refine lv_goto (tgt := 12) hx hb dX11_fits_91 (by decide) ?_
  exact i12 _ _ _ _ _ _ _ _ _ (lv_sub hl [1, 2, 3, 0] rfl) hH hq

set_option maxRecDepth 100000 in
set_option maxHeartbeats 4000000 in
theorem w_X11_fits_82 {XC : String → State → State → Prop} (C : bk_C G p s m args meth c cX11_fits RX11 5 (some FieldType.int)) (hst : l.stackTraces = false) (hT9 : ∀ x ∈ c.exceptionTable.toList, False) (k12 : bk_Val → Nat → Int32 → Int32 → Int32 → Option (Nat ⊕ (Int32))) (i12 : ∀ (V : bk_Val) (a0 : Nat) (x1 : Int32) (x2 : Int32) (x3 : Int32) (H : Heap) (locs : List Loc) (ls : Array Slot) (out : Nat ⊕ (Int32)), lv_has ls 5 [(0, .ref a0), (1, .int x1), (2, .int x2), (3, .int x3)] → bk_H G Y V s.heap H locs → k12 V a0 x1 x2 x3 = some out → W p l e rm_X11_fits s m args below meth c H locs 1 6 (vx_MQ below (bk_QX (fun (o : Int32) => bk_Q G (some (.int o)) Y V) out) XC args s 1 6 (bk_A G)) (F0 m 12 ls [])) : ∀ (V : bk_Val) (a0 : Nat) (x1 : Int32) (x2 : Int32) (x3 : Int32) (H : Heap) (locs : List Loc) (ls : Array Slot) (out : Nat ⊕ (Int32)), lv_has ls 5 [(0, .ref a0), (1, .int x1), (2, .int x2), (3, .int x3)] → bk_H G Y V s.heap H locs → q_X11_fits_82 N Y k12 V a0 x1 x2 x3 = some out → W p l e rm_X11_fits s m args below meth c H locs 1 6 (vx_MQ below (bk_QX (fun (o : Int32) => bk_Q G (some (.int o)) Y V) out) XC args s 1 6 (bk_A G)) (F0 m 82 ls []) := by
  have hx := C.1
  have hb := C.2.1
  intro V a0 x1 x2 x3 H locs ls out hl hH hq
  unfold q_X11_fits_82 at hq
  refine lv_iload_n hx hb dX11_fits_82 rfl (lv_at hl 2 rfl) ?_
  refine lv_iconst (v := 1) hx hb dX11_fits_83 (by decide) ?_
  refine lv_iload_n hx hb dX11_fits_84 rfl (lv_at hl 3 rfl) ?_
  refine bk_ishl hx hb dX11_fits_85 ?_
  refine lv_ior hx hb dX11_fits_86 ?_
  refine lv_istore_n (lv' := [(2, .int (x2 ||| (bk_shl 1 x3))), (0, .ref a0), (1, .int x1), (3, .int x3)]) hx hb dX11_fits_87 rfl hl (by decide) rfl (fun ls hl => ?_)
  exact w_X11_fits_88 C hst hT9 _ i12 _ _ _ _ _ _ _ _ _ (lv_sub hl [1, 2, 0, 3] rfl) hH hq

set_option maxRecDepth 100000 in
set_option maxHeartbeats 4000000 in
theorem w_X11_fits_12 {XC : String → State → State → Prop} (C : bk_C G p s m args meth c cX11_fits RX11 5 (some FieldType.int)) (hst : l.stackTraces = false) (hT9 : ∀ x ∈ c.exceptionTable.toList, False) : ∀ (n : Nat), ∀ (V : bk_Val) (a0 : Nat) (x1 : Int32) (x2 : Int32) (x3 : Int32) (H : Heap) (locs : List Loc) (ls : Array Slot) (out : Nat ⊕ (Int32)), lv_has ls 5 [(0, .ref a0), (1, .int x1), (2, .int x2), (3, .int x3)] → bk_H G Y V s.heap H locs → q_X11_fits_12 N Y n V a0 x1 x2 x3 = some out → W p l e rm_X11_fits s m args below meth c H locs 1 6 (vx_MQ below (bk_QX (fun (o : Int32) => bk_Q G (some (.int o)) Y V) out) XC args s 1 6 (bk_A G)) (F0 m 12 ls []) := by
  have hx := C.1
  have hb := C.2.1
  intro n
  induction n with
  | zero =>
    intro V a0 x1 x2 x3 H locs ls out hl hH hq
    exact nomatch (show (none : Option (Nat ⊕ (Int32))) = some out from hq)
  | succ n ih =>
    intro V a0 x1 x2 x3 H locs ls out hl hH hq
    unfold q_X11_fits_12 at hq
    refine lv_iload_n hx hb dX11_fits_12 rfl (lv_at hl 3 rfl) ?_
    refine lv_aload_n hx hb dX11_fits_13 rfl (lv_at hl 0 rfl) ?_
    obtain ⟨hs_1, hq⟩ := bk_ck_some hq
    obtain ⟨b_2, hr_3, hq⟩ := bk_bd_some hq
    refine bk_getr C hH fl_RX11_33 hs_1 rfl hr_3 dX11_fits_14 ?_
    obtain ⟨hs_4, hq⟩ := bk_ck_some hq
    obtain ⟨b_5, hr_6, hq⟩ := bk_bd_some hq
    refine bk_getr C hH fl_RX11_121 hs_4 rfl hr_6 dX11_fits_17 ?_
    obtain ⟨hs_7, hq⟩ := bk_ck_some hq
    refine bk_geti C hH fl_RX11_125 hs_7 rfl dX11_fits_20 ?_
    refine lv_icmp_ge (tgt := 94) hx hb dX11_fits_23 (by decide) (fun hc_24 => ?_) (fun hc_24 => ?_)
    · rw [if_pos hc_24] at hq
      refine lv_iload_n hx hb dX11_fits_94 rfl (lv_at hl 2 rfl) ?_
      refine vx_ret ?_
      cases hq
      exact bk_iret C hH dX11_fits_95
    · rw [if_neg hc_24] at hq
      refine lv_aload_n hx hb dX11_fits_26 rfl (lv_at hl 0 rfl) ?_
      refine bk_getr C hH fl_RX11_33 hs_1 rfl hr_3 dX11_fits_27 ?_
      refine bk_getr C hH fl_RX11_121 hs_4 rfl hr_6 dX11_fits_30 ?_
      obtain ⟨b_8, hr_9, hq⟩ := bk_bd_some hq
      refine bk_getr C hH fl_RX11_163 hs_7 rfl hr_9 dX11_fits_33 ?_
      refine lv_iload_n hx hb dX11_fits_36 rfl (lv_at hl 3 rfl) ?_
      obtain ⟨ha_10, hq⟩ := bk_ck_some hq
      obtain ⟨hi_11, hq⟩ := bk_ck_some hq
      refine bk_iald C hH (bk_arr ha_10) (bk_in_vp hi_11) dX11_fits_37 ?_
      refine lv_topi (fun x4_12 e_13 => ?_)
      have hq := bk_let_eq e_13 hq
      refine lv_istore (lv' := [(4, .int x4_12), (0, .ref a0), (1, .int x1), (2, .int x2), (3, .int x3)]) hx hb dX11_fits_38 hl (by decide) rfl (fun ls hl => ?_)
      refine lv_aload_n hx hb dX11_fits_40 rfl (lv_at hl 1 rfl) ?_
      refine bk_getr C hH fl_RX11_33 hs_1 rfl hr_3 dX11_fits_41 ?_
      refine lv_aload_n hx hb dX11_fits_44 rfl (lv_at hl 1 rfl) ?_
      refine bk_getr C hH fl_RX11_33 hs_1 rfl hr_3 dX11_fits_45 ?_
      obtain ⟨r_15, hr_14, hq⟩ := bk_bd_some hq
      refine bk_callV (rest := [.ref b_2]) (As := []) (ro := (some (.int r_15))) (Y1 := Y) (V1 := V) C hH hl.1 (c_X5_mark hr_14) mc_X5_mark mv_X5_mark lk_RX11_254 hs_4 rfl rfl ⟨rfl, rfl⟩ ⟨by decide, by decide⟩ rfl (Nat.le_of_ble_eq_true rfl) dX11_fits_48 ⟨by decide, by decide⟩ (fun H locs hH => ?_)
      refine lv_iload hx hb dX11_fits_51 (lv_at hl 0 rfl) ?_
      refine lv_iadd hx hb dX11_fits_53 ?_
      obtain ⟨r_17, hr_16, hq⟩ := bk_bd_some hq
      refine bk_callV (rest := []) (As := [.int (r_15 + x4_12)]) (ro := (some (.int r_17))) (Y1 := Y) (V1 := V) C hH hl.1 (c_X5_round hr_16) mc_X5_round mv_X5_round lk_RX11_231 hs_4 rfl rfl ⟨rfl, rfl⟩ ⟨by decide, by decide⟩ rfl (Nat.le_of_ble_eq_true rfl) dX11_fits_54 ⟨by decide, by decide⟩ (fun H locs hH => ?_)
      refine lv_iload_n hx hb dX11_fits_57 rfl (lv_at hl 2 rfl) ?_
      refine lv_icmp_eq (tgt := 82) hx hb dX11_fits_58 (by decide) (fun hc_23 => ?_) (fun hc_23 => ?_)
      · rw [if_pos hc_23] at hq
        exact w_X11_fits_82 C hst hT9 _ ih _ _ _ _ _ _ _ _ _ (lv_sub hl [1, 2, 3, 4] rfl) hH hq
      · rw [if_neg hc_23] at hq
        refine lv_aload_n hx hb dX11_fits_61 rfl (lv_at hl 1 rfl) ?_
        refine bk_getr C hH fl_RX11_33 hs_1 rfl hr_3 dX11_fits_62 ?_
        refine lv_aload_n hx hb dX11_fits_65 rfl (lv_at hl 1 rfl) ?_
        refine bk_getr C hH fl_RX11_33 hs_1 rfl hr_3 dX11_fits_66 ?_
        obtain ⟨r_19, hr_18, hq⟩ := bk_bd_some hq
        refine bk_callV (rest := [.ref b_2]) (As := []) (ro := (some (.int r_19))) (Y1 := Y) (V1 := V) C hH hl.1 (c_X5_mark hr_18) mc_X5_mark mv_X5_mark lk_RX11_254 hs_4 rfl rfl ⟨rfl, rfl⟩ ⟨by decide, by decide⟩ rfl (Nat.le_of_ble_eq_true rfl) dX11_fits_69 ⟨by decide, by decide⟩ (fun H locs hH => ?_)
        refine lv_iload hx hb dX11_fits_72 (lv_at hl 0 rfl) ?_
        refine lv_isub hx hb dX11_fits_74 ?_
        obtain ⟨r_21, hr_20, hq⟩ := bk_bd_some hq
        refine bk_callV (rest := []) (As := [.int (r_19 - x4_12)]) (ro := (some (.int r_21))) (Y1 := Y) (V1 := V) C hH hl.1 (c_X5_round hr_20) mc_X5_round mv_X5_round lk_RX11_231 hs_4 rfl rfl ⟨rfl, rfl⟩ ⟨by decide, by decide⟩ rfl (Nat.le_of_ble_eq_true rfl) dX11_fits_75 ⟨by decide, by decide⟩ (fun H locs hH => ?_)
        refine lv_iload_n hx hb dX11_fits_78 rfl (lv_at hl 2 rfl) ?_
        refine lv_icmp_ne (tgt := 88) hx hb dX11_fits_79 (by decide) (fun hc_22 => ?_) (fun hc_22 => ?_)
        · rw [if_neg hc_22] at hq
          exact w_X11_fits_88 C hst hT9 _ ih _ _ _ _ _ _ _ _ _ (lv_sub hl [1, 2, 3, 4] rfl) hH hq
        · rw [if_pos hc_22] at hq
          exact w_X11_fits_82 C hst hT9 _ ih _ _ _ _ _ _ _ _ _ (lv_sub hl [1, 2, 3, 4] rfl) hH hq

set_option maxRecDepth 100000 in
set_option maxHeartbeats 4000000 in
theorem w_X11_fits (C : bk_C G p s m args meth c cX11_fits RX11 5 (some FieldType.int)) (hst : l.stackTraces = false) (hT9 : ∀ x ∈ c.exceptionTable.toList, False) : ∀ (V : bk_Val) (a0 : Nat) (x1 : Int32) (H : Heap) (locs : List Loc) (ls : Array Slot) (out : Nat ⊕ (Int32)), lv_has ls 5 [(0, .ref a0), (1, .int x1)] → bk_H G Y V s.heap H locs → q_X11_fits N Y V a0 x1 = some out → W p l e rm_X11_fits s m args below meth c H locs 0 0 (vx_MQ below (bk_QX (fun (o : Int32) => bk_Q G (some (.int o)) Y V) out) (bk_XC G Y V out) args s 1 6 (bk_A G)) (F0 m 0 ls []) := by
  have hx := C.1
  have hb := C.2.1
  intro V a0 x1 H locs ls out hl hH hq
  unfold q_X11_fits at hq
  refine lv_aload_n hx hb dX11_fits_0 rfl (lv_at hl 0 rfl) ?_
  refine lv_iload_n hx hb dX11_fits_1 rfl (lv_at hl 1 rfl) ?_
  obtain ⟨hs_27, hq⟩ := bk_ck_some hq
  obtain ⟨r_26, hr_25, hq⟩ := bk_bd_some hq
  refine bk_callV (rest := []) (As := [.int x1]) (ro := (some (.int r_26))) (Y1 := Y) (V1 := V) C hH hl.1 (c_X11_isInch hr_25) mc_X11_isInch mv_X11_isInch lk_RX11_220 hs_27 rfl rfl ⟨rfl, rfl⟩ ⟨by decide, by decide⟩ rfl (Nat.le_of_ble_eq_true rfl) dX11_fits_2 ⟨by decide, by decide⟩ (fun H locs hH => ?_)
  rcases bk_bdx_cases hq with ⟨x9_29, hr_28, ho_30⟩ | ⟨u5, hr_28, hq⟩
  · exact bk_callSt (rest := []) (As := [.int r_26]) (e9 := x9_29) C hT9 hH hl.1 (c_X11_needElement hst hr_28) ho_30 mc_X11_needElement st_X11_needElement ml_RX11_214 rfl ⟨rfl, rfl⟩ ⟨by decide, by decide⟩ rfl (Nat.le_of_ble_eq_true rfl) dX11_fits_5 ⟨by decide, by decide⟩ (by decide) (by decide)
  · refine bk_callSr (rest := []) (As := [.int r_26]) (o1 := u5) (ro := none) (Y1 := Y) (V1 := V) rfl C hH hl.1 (c_X11_needElement hst hr_28) mc_X11_needElement st_X11_needElement ml_RX11_214 rfl ⟨rfl, rfl⟩ ⟨by decide, by decide⟩ rfl (Nat.le_of_ble_eq_true rfl) dX11_fits_5 ⟨by decide, by decide⟩ (fun H locs hH => ?_)
    refine W.widen (k := 1) (n := 6) (by decide) (by decide) ?_
    refine lv_iconst (v := 0) hx hb dX11_fits_8 (by decide) ?_
    refine lv_istore_n (lv' := [(2, .int 0), (0, .ref a0), (1, .int x1)]) hx hb dX11_fits_9 rfl hl (by decide) rfl (fun ls hl => ?_)
    refine lv_iconst (v := 0) hx hb dX11_fits_10 (by decide) ?_
    refine lv_istore_n (lv' := [(3, .int 0), (2, .int 0), (0, .ref a0), (1, .int x1)]) hx hb dX11_fits_11 rfl hl (by decide) rfl (fun ls hl => ?_)
    exact w_X11_fits_12 C hst hT9 _ _ _ _ _ _ _ _ _ _ (lv_sub hl [2, 3, 1, 0] rfl) hH hq
set_option maxRecDepth 100000 in
theorem c_X11_fits {l : Launch} {G : bk_G} {N : Nat} {Y : bk_Lay} {V : bk_Val} (hst : l.stackTraces = false) {a0 : Nat} {x1 : Int32} {out : Nat ⊕ (Int32)} (hq : q_X11_fits N Y V a0 x1 = some out) : vx_Met l yX11_fits (bk_ws yX11_fits cX11_fits 5 (some FieldType.int)) rm_X11_fits (bk_Pc G [.ref a0, .int x1] Y V) (bk_QX (fun (o : Int32) => bk_Q G (some (.int o)) Y V) out) (bk_XC G Y V out) 1 6 (bk_A G) :=
  bk_metx (by decide) (Nat.le_of_ble_eq_true rfl) (fun p e s m args below meth c ls C hT9 hH hl => w_X11_fits C hst hT9 _ _ _ _ _ _ _ hl hH hq)

def rm_X11_pump : Room := bk_rm 3 1 5 73
set_option maxRecDepth 100000 in
set_option maxHeartbeats 4000000 in
theorem w_X11_pump (C : bk_C G p s m args meth c cX11_pump RX11 2 (some FieldType.int)) : ∀ (Y : bk_Lay) (V : bk_Val) (a0 : Nat) (H : Heap) (locs : List Loc) (ls : Array Slot) (out : Int32 × bk_Lay × bk_Val), lv_has ls 2 [(0, .ref a0)] → bk_H G Y V s.heap H locs → q_X11_pump N Y V a0 = some out → W p l e rm_X11_pump s m args below meth c H locs 0 0 (MQ below (bk_Q G (some (.int out.1)) out.2.1 out.2.2) args s 1 5 (bk_A G)) (F0 m 0 ls []) := by
  have hx := C.1
  have hb := C.2.1
  intro Y V a0 H locs ls out hl hH hq
  unfold q_X11_pump at hq
  refine lv_aload_n hx hb dX11_pump_0 rfl (lv_at hl 0 rfl) ?_
  obtain ⟨hs_1, hq⟩ := bk_ck_some hq
  obtain ⟨b_2, hr_3, hq⟩ := bk_bd_some hq
  refine bk_getr C hH fl_RX11_63 hs_1 rfl hr_3 dX11_pump_1 ?_
  obtain ⟨hs_4, hq⟩ := bk_ck_some hq
  refine bk_geti C hH fl_RX11_144 hs_4 rfl dX11_pump_4 ?_
  refine lv_istore_n (lv' := [(1, .int (bk_rI V b_2 1)), (0, .ref a0)]) hx hb dX11_pump_7 rfl hl (by decide) rfl (fun ls hl => ?_)
  refine lv_aload_n hx hb dX11_pump_8 rfl (lv_at hl 1 rfl) ?_
  refine lv_aload_n hx hb dX11_pump_9 rfl (lv_at hl 1 rfl) ?_
  obtain ⟨b_5, hr_6, hq⟩ := bk_bd_some hq
  refine bk_getr C hH fl_RX11_33 hs_1 rfl hr_6 dX11_pump_10 ?_
  obtain ⟨hs_9, hq⟩ := bk_ck_some hq
  obtain ⟨r_8, hr_7, hq⟩ := bk_bd_some hq
  refine bk_callV (rest := [.ref a0]) (As := []) (ro := (some (.int r_8))) (Y1 := Y) (V1 := V) C hH hl.1 (c_X5_fullPressure hr_7) mc_X5_fullPressure mv_X5_fullPressure lk_RX11_201 hs_9 rfl rfl ⟨rfl, rfl⟩ ⟨by decide, by decide⟩ rfl (Nat.le_of_ble_eq_true rfl) dX11_pump_13 ⟨by decide, by decide⟩ (fun H locs hH => ?_)
  refine lv_aload_n hx hb dX11_pump_16 rfl (lv_at hl 1 rfl) ?_
  refine bk_getr C hH fl_RX11_63 hs_1 rfl hr_3 dX11_pump_17 ?_
  refine bk_geti C hH fl_RX11_147 hs_4 rfl dX11_pump_20 ?_
  refine lv_aload_n hx hb dX11_pump_23 rfl (lv_at hl 1 rfl) ?_
  refine bk_getr C hH fl_RX11_63 hs_1 rfl hr_3 dX11_pump_24 ?_
  refine bk_geti C hH fl_RX11_176 hs_4 rfl dX11_pump_27 ?_
  refine lv_aload_n hx hb dX11_pump_30 rfl (lv_at hl 1 rfl) ?_
  refine bk_getr C hH fl_RX11_63 hs_1 rfl hr_3 dX11_pump_31 ?_
  obtain ⟨b_10, hr_11, hq⟩ := bk_bd_some hq
  refine bk_getr C hH fl_RX11_193 hs_4 rfl hr_11 dX11_pump_34 ?_
  obtain ⟨Y_13, V_14, hr_12, hq⟩ := bk_bd2_some hq
  refine bk_callV (rest := []) (As := [.int r_8, .int (bk_rI V b_2 2), .int (bk_rI V b_2 3), .ref b_10]) (ro := none) (Y1 := Y_13) (V1 := V_14) C hH hl.1 (c_X11_keepAct hr_12) mc_X11_keepAct mv_X11_keepAct lk_RX11_197 hs_1 rfl rfl ⟨rfl, rfl⟩ ⟨by decide, by decide⟩ rfl (Nat.le_of_ble_eq_true rfl) dX11_pump_37 ⟨by decide, by decide⟩ (fun H locs hH => ?_)
  refine W.widen (k := 1) (n := 5) (by decide) (by decide) ?_
  refine lv_iload_n hx hb dX11_pump_40 rfl (lv_at hl 0 rfl) ?_
  cases hq
  exact bk_iret C hH dX11_pump_41
set_option maxRecDepth 100000 in
theorem c_X11_pump {l : Launch} {G : bk_G} {N : Nat} {Y : bk_Lay} {V : bk_Val} {a0 : Nat} {out : Int32 × bk_Lay × bk_Val} (hq : q_X11_pump N Y V a0 = some out) : Met l yX11_pump (bk_ws yX11_pump cX11_pump 2 (some FieldType.int)) rm_X11_pump (bk_Pc G [.ref a0] Y V) (bk_Q G (some (.int out.1)) out.2.1 out.2.2) 1 5 (bk_A G) :=
  bk_met (by decide) (Nat.le_of_ble_eq_true rfl) (fun p e s m args below meth c ls C hnm hH hl => w_X11_pump C _ _ _ _ _ _ _ hl hH hq)

def rm_X11_mean : Room := bk_rm 9 1 6 220
set_option maxRecDepth 100000 in
set_option maxHeartbeats 4000000 in
theorem w_X11_mean_33 {XC : String → State → State → Prop} (C : bk_C G p s m args meth c cX11_mean RX11 7 (some FieldType.int)) (hst : l.stackTraces = false) (hT9 : ∀ x ∈ c.exceptionTable.toList, False) : ∀ (n : Nat), ∀ (V : bk_Val) (a0 : Nat) (x1 : Int32) (x2 : Int32) (x3 : Int32) (x4 : Int32) (x5 : Int32) (H : Heap) (locs : List Loc) (ls : Array Slot) (out : Nat ⊕ (Int32 × bk_Val)), lv_has ls 7 [(0, .ref a0), (1, .int x1), (2, .int x2), (3, .int x3), (4, .int x4), (5, .int x5)] → bk_H G Y V s.heap H locs → q_X11_mean_33 N Y n V a0 x1 x2 x3 x4 x5 = some out → W p l e rm_X11_mean s m args below meth c H locs 1 6 (vx_MQ below (bk_QX (fun (o : Int32 × bk_Val) => bk_Q G (some (.int o.1)) Y o.2) out) XC args s 1 6 (bk_A G)) (F0 m 33 ls []) := by
  have hx := C.1
  have hb := C.2.1
  intro n
  induction n with
  | zero =>
    intro V a0 x1 x2 x3 x4 x5 H locs ls out hl hH hq
    exact nomatch (show (none : Option (Nat ⊕ (Int32 × bk_Val))) = some out from hq)
  | succ n ih =>
    intro V a0 x1 x2 x3 x4 x5 H locs ls out hl hH hq
    unfold q_X11_mean_33 at hq
    refine lv_iload hx hb dX11_mean_33 (lv_at hl 5 rfl) ?_
    refine lv_aload_n hx hb dX11_mean_35 rfl (lv_at hl 0 rfl) ?_
    obtain ⟨hs_1, hq⟩ := bk_ck_some hq
    obtain ⟨b_2, hr_3, hq⟩ := bk_bd_some hq
    refine bk_getr C hH fl_RX11_33 hs_1 rfl hr_3 dX11_mean_36 ?_
    obtain ⟨hs_4, hq⟩ := bk_ck_some hq
    obtain ⟨b_5, hr_6, hq⟩ := bk_bd_some hq
    refine bk_getr C hH fl_RX11_130 hs_4 rfl hr_6 dX11_mean_39 ?_
    obtain ⟨hs_7, hq⟩ := bk_ck_some hq
    refine bk_geti C hH fl_RX11_134 hs_7 rfl dX11_mean_42 ?_
    refine lv_icmp_ge (tgt := 115) hx hb dX11_mean_45 (by decide) (fun hc_30 => ?_) (fun hc_30 => ?_)
    · rw [if_pos hc_30] at hq
      refine lv_iload_n hx hb dX11_mean_115 rfl (lv_at hl 1 rfl) ?_
      refine lv_if_ne (tgt := 123) hx hb dX11_mean_116 (by decide) (fun hc_8 => ?_) (fun hc_8 => ?_)
      · rw [if_neg hc_8] at hq
        refine lv_iload hx hb dX11_mean_123 (lv_at hl 4 rfl) ?_
        refine vx_ret ?_
        cases hq
        exact bk_iret C hH dX11_mean_125
      · rw [if_pos hc_8] at hq
        refine lv_iload_n hx hb dX11_mean_119 rfl (lv_at hl 3 rfl) ?_
        refine lv_goto (tgt := 125) hx hb dX11_mean_120 (by decide) ?_
        refine vx_ret ?_
        cases hq
        exact bk_iret C hH dX11_mean_125
    · rw [if_neg hc_30] at hq
      refine lv_aload_n hx hb dX11_mean_48 rfl (lv_at hl 0 rfl) ?_
      obtain ⟨b_9, hr_10, hq⟩ := bk_bd_some hq
      refine bk_getr C hH fl_RX11_27 hs_1 rfl hr_10 dX11_mean_49 ?_
      refine lv_iload hx hb dX11_mean_52 (lv_at hl 5 rfl) ?_
      obtain ⟨ha_11, hq⟩ := bk_ck_some hq
      obtain ⟨hi_12, hq⟩ := bk_ck_some hq
      refine bk_iald C hH (bk_arr ha_11) (bk_in_vp hi_12) dX11_mean_54 ?_
      refine lv_topi (fun x6_13 e_14 => ?_)
      have hq := bk_let_eq e_14 hq
      refine lv_istore (lv' := [(6, .int x6_13), (0, .ref a0), (1, .int x1), (2, .int x2), (3, .int x3), (4, .int x4), (5, .int x5)]) hx hb dX11_mean_55 hl (by decide) rfl (fun ls hl => ?_)
      refine lv_iload_n hx hb dX11_mean_57 rfl (lv_at hl 3 rfl) ?_
      refine lv_aload_n hx hb dX11_mean_58 rfl (lv_at hl 1 rfl) ?_
      refine bk_getr C hH fl_RX11_33 hs_1 rfl hr_3 dX11_mean_59 ?_
      refine bk_getr C hH fl_RX11_130 hs_4 rfl hr_6 dX11_mean_62 ?_
      obtain ⟨b_15, hr_16, hq⟩ := bk_bd_some hq
      refine bk_getr C hH fl_RX11_380 hs_7 rfl hr_16 dX11_mean_65 ?_
      refine lv_iload hx hb dX11_mean_68 (lv_at hl 0 rfl) ?_
      obtain ⟨ha_17, hq⟩ := bk_ck_some hq
      obtain ⟨hi_18, hq⟩ := bk_ck_some hq
      refine bk_iald C hH (bk_arr ha_17) (bk_in_vp hi_18) dX11_mean_70 ?_
      refine lv_iadd hx hb dX11_mean_71 ?_
      refine lv_topi (fun x2_19 e_20 => ?_)
      have hq := bk_let_eq e_20 hq
      refine lv_istore_n (lv' := [(2, .int x2_19), (6, .int x6_13), (0, .ref a0), (1, .int x1), (3, .int x3), (4, .int x4), (5, .int x5)]) hx hb dX11_mean_72 rfl hl (by decide) rfl (fun ls hl => ?_)
      refine lv_iload_n hx hb dX11_mean_73 rfl (lv_at hl 4 rfl) ?_
      refine lv_iload_n hx hb dX11_mean_74 rfl (lv_at hl 0 rfl) ?_
      refine lv_aload_n hx hb dX11_mean_75 rfl (lv_at hl 2 rfl) ?_
      refine bk_getr C hH fl_RX11_33 hs_1 rfl hr_3 dX11_mean_76 ?_
      refine bk_getr C hH fl_RX11_130 hs_4 rfl hr_6 dX11_mean_79 ?_
      obtain ⟨b_21, hr_22, hq⟩ := bk_bd_some hq
      refine bk_getr C hH fl_RX11_383 hs_7 rfl hr_22 dX11_mean_82 ?_
      refine lv_iload hx hb dX11_mean_85 (lv_at hl 1 rfl) ?_
      obtain ⟨ha_23, hq⟩ := bk_ck_some hq
      obtain ⟨hi_24, hq⟩ := bk_ck_some hq
      refine bk_iald C hH (bk_arr ha_23) (bk_in_vp hi_24) dX11_mean_87 ?_
      refine lv_imul hx hb dX11_mean_88 ?_
      refine lv_iadd hx hb dX11_mean_89 ?_
      refine lv_topi (fun x3_25 e_26 => ?_)
      have hq := bk_let_eq e_26 hq
      refine lv_istore_n (lv' := [(3, .int x3_25), (2, .int x2_19), (6, .int x6_13), (0, .ref a0), (1, .int x1), (4, .int x4), (5, .int x5)]) hx hb dX11_mean_90 rfl hl (by decide) rfl (fun ls hl => ?_)
      refine lv_iload hx hb dX11_mean_91 (lv_at hl 5 rfl) ?_
      refine lv_aload_n hx hb dX11_mean_93 rfl (lv_at hl 3 rfl) ?_
      refine bk_getr C hH fl_RX11_33 hs_1 rfl hr_3 dX11_mean_94 ?_
      refine bk_getr C hH fl_RX11_130 hs_4 rfl hr_6 dX11_mean_97 ?_
      refine bk_getr C hH fl_RX11_383 hs_7 rfl hr_22 dX11_mean_100 ?_
      refine lv_iload hx hb dX11_mean_103 (lv_at hl 2 rfl) ?_
      obtain ⟨hi_27, hq⟩ := bk_ck_some hq
      refine bk_iald C hH (bk_arr ha_23) (bk_in_vp hi_27) dX11_mean_105 ?_
      refine lv_iadd hx hb dX11_mean_106 ?_
      refine lv_topi (fun x4_28 e_29 => ?_)
      have hq := bk_let_eq e_29 hq
      refine lv_istore (lv' := [(4, .int x4_28), (3, .int x3_25), (2, .int x2_19), (6, .int x6_13), (0, .ref a0), (1, .int x1), (5, .int x5)]) hx hb dX11_mean_107 hl (by decide) rfl (fun ls hl => ?_)
      refine lv_iinc (v := (x5 + 1)) (lv' := [(5, .int (x5 + 1)), (4, .int x4_28), (3, .int x3_25), (2, .int x2_19), (6, .int x6_13), (0, .ref a0), (1, .int x1)]) hx hb dX11_mean_109 hl (k := 6) rfl rfl (by decide) rfl (fun ls hl => ?_)
      refine lv_goto (tgt := 33) hx hb dX11_mean_112 (by decide) ?_
      exact ih _ _ _ _ _ _ _ _ _ _ _ (lv_sub hl [5, 6, 3, 2, 1, 0] rfl) hH hq

set_option maxRecDepth 100000 in
set_option maxHeartbeats 4000000 in
theorem w_X11_mean (C : bk_C G p s m args meth c cX11_mean RX11 7 (some FieldType.int)) (hst : l.stackTraces = false) (hT9 : ∀ x ∈ c.exceptionTable.toList, False) : ∀ (V : bk_Val) (a0 : Nat) (x1 : Int32) (H : Heap) (locs : List Loc) (ls : Array Slot) (out : Nat ⊕ (Int32 × bk_Val)), lv_has ls 7 [(0, .ref a0), (1, .int x1)] → bk_H G Y V s.heap H locs → q_X11_mean N Y V a0 x1 = some out → W p l e rm_X11_mean s m args below meth c H locs 0 0 (vx_MQ below (bk_QX (fun (o : Int32 × bk_Val) => bk_Q G (some (.int o.1)) Y o.2) out) (bk_XC G Y V out) args s 1 6 (bk_A G)) (F0 m 0 ls []) := by
  have hx := C.1
  have hb := C.2.1
  intro V a0 x1 H locs ls out hl hH hq
  unfold q_X11_mean at hq
  refine lv_iload_n hx hb dX11_mean_0 rfl (lv_at hl 1 rfl) ?_
  refine lv_iconst (v := 0) hx hb dX11_mean_1 (by decide) ?_
  refine lv_iconst (v := 1) hx hb dX11_mean_2 (by decide) ?_
  obtain ⟨r_32, hr_31, hq⟩ := bk_bd_some hq
  refine bk_callS (rest := []) (As := [.int x1, .int 0, .int 1]) (ro := (some (.int r_32))) (Y1 := Y) (V1 := V) C hH hl.1 (c_X11_isWithin hr_31) mc_X11_isWithin st_X11_isWithin lk_RX11_78 rfl ⟨rfl, rfl⟩ ⟨by decide, by decide⟩ rfl (Nat.le_of_ble_eq_true rfl) dX11_mean_3 ⟨by decide, by decide⟩ (fun H locs hH => ?_)
  rcases bk_bdx_cases hq with ⟨x9_34, hr_33, ho_35⟩ | ⟨u6, hr_33, hq⟩
  · exact bk_callSt (rest := []) (As := [.int r_32]) (e9 := x9_34) C hT9 hH hl.1 (c_X11_needElement hst hr_33) ho_35 mc_X11_needElement st_X11_needElement ml_RX11_214 rfl ⟨rfl, rfl⟩ ⟨by decide, by decide⟩ rfl (Nat.le_of_ble_eq_true rfl) dX11_mean_6 ⟨by decide, by decide⟩ (by decide) (by decide)
  · refine bk_callSr (rest := []) (As := [.int r_32]) (o1 := u6) (ro := none) (Y1 := Y) (V1 := V) rfl C hH hl.1 (c_X11_needElement hst hr_33) mc_X11_needElement st_X11_needElement ml_RX11_214 rfl ⟨rfl, rfl⟩ ⟨by decide, by decide⟩ rfl (Nat.le_of_ble_eq_true rfl) dX11_mean_6 ⟨by decide, by decide⟩ (fun H locs hH => ?_)
    refine W.widen (k := 1) (n := 6) (by decide) (by decide) ?_
    refine lv_aload_n hx hb dX11_mean_9 rfl (lv_at hl 0 rfl) ?_
    obtain ⟨hs_36, hq⟩ := bk_ck_some hq
    obtain ⟨b_37, hr_38, hq⟩ := bk_bd_some hq
    refine bk_getr C hH fl_RX11_33 hs_36 rfl hr_38 dX11_mean_10 ?_
    obtain ⟨hs_39, hq⟩ := bk_ck_some hq
    obtain ⟨b_40, hr_41, hq⟩ := bk_bd_some hq
    refine bk_getr C hH fl_RX11_130 hs_39 rfl hr_41 dX11_mean_13 ?_
    refine lv_aload_n hx hb dX11_mean_16 rfl (lv_at hl 0 rfl) ?_
    obtain ⟨b_42, hr_43, hq⟩ := bk_bd_some hq
    refine bk_getr C hH fl_RX11_27 hs_36 rfl hr_43 dX11_mean_17 ?_
    obtain ⟨hs_46, hq⟩ := bk_ck_some hq
    obtain ⟨V_45, hr_44, hq⟩ := bk_bd_some hq
    refine bk_callV (rest := []) (As := [.ref b_42]) (ro := none) (Y1 := Y) (V1 := V_45) C hH hl.1 (c_X10_putInOrder hr_44) mc_X10_putInOrder mv_X10_putInOrder lk_RX11_376 hs_46 rfl rfl ⟨rfl, rfl⟩ ⟨by decide, by decide⟩ rfl (Nat.le_of_ble_eq_true rfl) dX11_mean_20 ⟨by decide, by decide⟩ (fun H locs hH => ?_)
    refine lv_iconst (v := 0) hx hb dX11_mean_23 (by decide) ?_
    refine lv_istore_n (lv' := [(2, .int 0), (0, .ref a0), (1, .int x1)]) hx hb dX11_mean_24 rfl hl (by decide) rfl (fun ls hl => ?_)
    refine lv_iconst (v := 0) hx hb dX11_mean_25 (by decide) ?_
    refine lv_istore_n (lv' := [(3, .int 0), (2, .int 0), (0, .ref a0), (1, .int x1)]) hx hb dX11_mean_26 rfl hl (by decide) rfl (fun ls hl => ?_)
    refine lv_iconst (v := 0) hx hb dX11_mean_27 (by decide) ?_
    refine lv_istore (lv' := [(4, .int 0), (3, .int 0), (2, .int 0), (0, .ref a0), (1, .int x1)]) hx hb dX11_mean_28 hl (by decide) rfl (fun ls hl => ?_)
    refine lv_iconst (v := 0) hx hb dX11_mean_30 (by decide) ?_
    refine lv_istore (lv' := [(5, .int 0), (4, .int 0), (3, .int 0), (2, .int 0), (0, .ref a0), (1, .int x1)]) hx hb dX11_mean_31 hl (by decide) rfl (fun ls hl => ?_)
    exact w_X11_mean_33 C hst hT9 _ _ _ _ _ _ _ _ _ _ _ _ (lv_sub hl [4, 5, 3, 2, 1, 0] rfl) hH hq
set_option maxRecDepth 100000 in
theorem c_X11_mean {l : Launch} {G : bk_G} {N : Nat} {Y : bk_Lay} {V : bk_Val} (hst : l.stackTraces = false) {a0 : Nat} {x1 : Int32} {out : Nat ⊕ (Int32 × bk_Val)} (hq : q_X11_mean N Y V a0 x1 = some out) : vx_Met l yX11_mean (bk_ws yX11_mean cX11_mean 7 (some FieldType.int)) rm_X11_mean (bk_Pc G [.ref a0, .int x1] Y V) (bk_QX (fun (o : Int32 × bk_Val) => bk_Q G (some (.int o.1)) Y o.2) out) (bk_XC G Y V out) 1 6 (bk_A G) :=
  bk_metx (by decide) (Nat.le_of_ble_eq_true rfl) (fun p e s m args below meth c ls C hT9 hH hl => w_X11_mean C hst hT9 _ _ _ _ _ _ _ hl hH hq)

def rm_X11_best : Room := bk_rm 9 2 12 220
set_option maxRecDepth 100000 in
set_option maxHeartbeats 4000000 in
theorem w_X11_best_144 {XC : String → State → State → Prop} (C : bk_C G p s m args meth c cX11_best RX11 11 (some FieldType.int)) (hst : l.stackTraces = false) (hT9 : ∀ x ∈ c.exceptionTable.toList, False) : ∀ (V : bk_Val) (x5 : Int32) (x6 : Int32) (x7 : Int32) (H : Heap) (locs : List Loc) (ls : Array Slot) (out : Nat ⊕ (Int32 × bk_Val)), lv_has ls 11 [(5, .int x5), (6, .int x6), (7, .int x7)] → bk_H G Y V s.heap H locs → q_X11_best_144 N Y V x5 x6 x7 = some out → W p l e rm_X11_best s m args below meth c H locs 2 12 (vx_MQ below (bk_QX (fun (o : Int32 × bk_Val) => bk_Q G (some (.int o.1)) Y o.2) out) XC args s 2 12 (bk_A G)) (F0 m 144 ls []) := by
  have hx := C.1
  have hb := C.2.1
  intro V x5 x6 x7 H locs ls out hl hH hq
  unfold q_X11_best_144 at hq
  refine lv_iload hx hb dX11_best_144 (lv_at hl 0 rfl) ?_
  refine lv_if_ne (tgt := 154) hx hb dX11_best_146 (by decide) (fun hc_1 => ?_) (fun hc_1 => ?_)
  · rw [if_neg hc_1] at hq
    refine lv_iload hx hb dX11_best_154 (lv_at hl 2 rfl) ?_
    refine vx_ret ?_
    cases hq
    exact bk_iret C hH dX11_best_156
  · rw [if_pos hc_1] at hq
    refine lv_iload hx hb dX11_best_149 (lv_at hl 1 rfl) ?_
    refine lv_goto (tgt := 156) hx hb dX11_best_151 (by decide) ?_
    refine vx_ret ?_
    cases hq
    exact bk_iret C hH dX11_best_156

set_option maxRecDepth 100000 in
set_option maxHeartbeats 4000000 in
theorem w_X11_best_94 {XC : String → State → State → Prop} (C : bk_C G p s m args meth c cX11_best RX11 11 (some FieldType.int)) (hst : l.stackTraces = false) (hT9 : ∀ x ∈ c.exceptionTable.toList, False) : ∀ (V : bk_Val) (a0 : Nat) (x1 : Int32) (x2 : Int32) (x3 : Int32) (x4 : Int32) (x5 : Int32) (x6 : Int32) (x7 : Int32) (H : Heap) (locs : List Loc) (ls : Array Slot) (out : Nat ⊕ (Int32 × bk_Val)), lv_has ls 11 [(0, .ref a0), (1, .int x1), (2, .int x2), (3, .int x3), (4, .int x4), (5, .int x5), (6, .int x6), (7, .int x7)] → bk_H G Y V s.heap H locs → q_X11_best_94 N Y V a0 x1 x2 x3 x4 x5 x6 x7 = some out → W p l e rm_X11_best s m args below meth c H locs 2 12 (vx_MQ below (bk_QX (fun (o : Int32 × bk_Val) => bk_Q G (some (.int o.1)) Y o.2) out) XC args s 2 12 (bk_A G)) (F0 m 94 ls []) := by
  have hx := C.1
  have hb := C.2.1
  intro V a0 x1 x2 x3 x4 x5 x6 x7 H locs ls out hl hH hq
  unfold q_X11_best_94 at hq
  refine lv_aload_n hx hb dX11_best_94 rfl (lv_at hl 0 rfl) ?_
  obtain ⟨hs_2, hq⟩ := bk_ck_some hq
  obtain ⟨b_3, hr_4, hq⟩ := bk_bd_some hq
  refine bk_getr C hH fl_RX11_33 hs_2 rfl hr_4 dX11_best_95 ?_
  refine lv_aload_n hx hb dX11_best_98 rfl (lv_at hl 0 rfl) ?_
  refine lv_iconst (v := 1) hx hb dX11_best_99 (by decide) ?_
  obtain ⟨r_6, hr_5, hq⟩ := bk_bd_some hq
  refine bk_callV (rest := [.ref b_3]) (As := [.int 1]) (ro := (some (.int r_6))) (Y1 := Y) (V1 := V) C hH hl.1 (c_X11_leakingHoles hr_5) mc_X11_leakingHoles mv_X11_leakingHoles lk_RX11_181 hs_2 rfl rfl ⟨rfl, rfl⟩ ⟨by decide, by decide⟩ rfl (Nat.le_of_ble_eq_true rfl) dX11_best_100 ⟨by decide, by decide⟩ (fun H locs hH => ?_)
  refine lv_iload_n hx hb dX11_best_103 rfl (lv_at hl 2 rfl) ?_
  refine lv_iload_n hx hb dX11_best_104 rfl (lv_at hl 3 rfl) ?_
  refine lv_iload hx hb dX11_best_105 (lv_at hl 4 rfl) ?_
  obtain ⟨hs_10, hq⟩ := bk_ck_some hq
  obtain ⟨r_8, V_9, hr_7, hq⟩ := bk_bd2_some hq
  refine bk_callV (rest := []) (As := [.int r_6, .int x2, .int x3, .int x4]) (ro := (some (.int r_8))) (Y1 := Y) (V1 := V_9) C hH hl.1 (c_X5_glueForAll hr_7) mc_X5_glueForAll mv_X5_glueForAll lk_RX11_370 hs_10 rfl rfl ⟨rfl, rfl⟩ ⟨by decide, by decide⟩ rfl (Nat.le_of_ble_eq_true rfl) dX11_best_107 ⟨by decide, by decide⟩ (fun H locs hH => ?_)
  refine lv_istore (lv' := [(9, .int r_8), (0, .ref a0), (1, .int x1), (2, .int x2), (3, .int x3), (4, .int x4), (5, .int x5), (6, .int x6), (7, .int x7)]) hx hb dX11_best_110 hl (by decide) rfl (fun ls hl => ?_)
  refine lv_iload hx hb dX11_best_112 (lv_at hl 0 rfl) ?_
  refine lv_bipush (v := 15) hx hb dX11_best_114 (by decide) ?_
  refine lv_iadd hx hb dX11_best_116 ?_
  refine lv_bipush (v := 6) hx hb dX11_best_117 (by decide) ?_
  refine lv_iload_n hx hb dX11_best_119 rfl (lv_at hl 2 rfl) ?_
  refine lv_imul hx hb dX11_best_120 ?_
  refine lv_iadd hx hb dX11_best_121 ?_
  refine lv_istore (lv' := [(10, .int ((r_8 + 15) + (6 * x1))), (9, .int r_8), (0, .ref a0), (1, .int x1), (2, .int x2), (3, .int x3), (4, .int x4), (5, .int x5), (6, .int x6), (7, .int x7)]) hx hb dX11_best_122 hl (by decide) rfl (fun ls hl => ?_)
  refine lv_iload hx hb dX11_best_124 (lv_at hl 1 rfl) ?_
  refine lv_iconst (v := (-1)) hx hb dX11_best_126 (by decide) ?_
  refine lv_icmp_eq (tgt := 144) hx hb dX11_best_127 (by decide) (fun hc_12 => ?_) (fun hc_12 => ?_)
  · rw [if_pos hc_12] at hq
    exact w_X11_best_144 C hst hT9 _ _ _ _ _ _ _ _ (lv_sub hl [7, 8, 9] rfl) hH hq
  · rw [if_neg hc_12] at hq
    refine lv_iload hx hb dX11_best_130 (lv_at hl 0 rfl) ?_
    refine lv_iload hx hb dX11_best_132 (lv_at hl 9 rfl) ?_
    refine lv_icmp_gt (tgt := 144) hx hb dX11_best_134 (by decide) (fun hc_11 => ?_) (fun hc_11 => ?_)
    · rw [if_pos hc_11] at hq
      exact w_X11_best_144 C hst hT9 _ _ _ _ _ _ _ _ (lv_sub hl [7, 8, 9] rfl) hH hq
    · rw [if_neg hc_11] at hq
      refine lv_iconst (v := 0) hx hb dX11_best_137 (by decide) ?_
      refine lv_istore (lv' := [(6, .int 0), (10, .int ((r_8 + 15) + (6 * x1))), (9, .int r_8), (0, .ref a0), (1, .int x1), (2, .int x2), (3, .int x3), (4, .int x4), (5, .int x5), (7, .int x7)]) hx hb dX11_best_138 hl (by decide) rfl (fun ls hl => ?_)
      refine lv_iload hx hb dX11_best_140 (lv_at hl 1 rfl) ?_
      refine lv_istore (lv' := [(7, .int ((r_8 + 15) + (6 * x1))), (6, .int 0), (10, .int ((r_8 + 15) + (6 * x1))), (9, .int r_8), (0, .ref a0), (1, .int x1), (2, .int x2), (3, .int x3), (4, .int x4), (5, .int x5)]) hx hb dX11_best_142 hl (by decide) rfl (fun ls hl => ?_)
      exact w_X11_best_144 C hst hT9 _ _ _ _ _ _ _ _ (lv_sub hl [9, 1, 0] rfl) hH hq

set_option maxRecDepth 100000 in
set_option maxHeartbeats 4000000 in
theorem w_X11_best_47 (C : bk_C G p s m args meth c cX11_best RX11 11 (some FieldType.int)) (hst : l.stackTraces = false) (hT9 : ∀ x ∈ c.exceptionTable.toList, False) : ∀ (V : bk_Val) (a0 : Nat) (x1 : Int32) (x2 : Int32) (x3 : Int32) (x4 : Int32) (x5 : Int32) (sx0 : Int32) (H : Heap) (locs : List Loc) (ls : Array Slot) (out : Nat ⊕ (Int32 × bk_Val)), lv_has ls 11 [(0, .ref a0), (1, .int x1), (2, .int x2), (3, .int x3), (4, .int x4), (5, .int x5)] → bk_H G Y V s.heap H locs → q_X11_best_47 N Y V a0 x1 x2 x3 x4 x5 sx0 = some out → W p l e rm_X11_best s m args below meth c H locs 1 6 (vx_MQ below (bk_QX (fun (o : Int32 × bk_Val) => bk_Q G (some (.int o.1)) Y o.2) out) (bk_XC G Y V out) args s 2 12 (bk_A G)) (F0 m 47 ls [.int sx0]) := by
  have hx := C.1
  have hb := C.2.1
  intro V a0 x1 x2 x3 x4 x5 sx0 H locs ls out hl hH hq
  unfold q_X11_best_47 at hq
  rcases bk_bdx_cases hq with ⟨x9_14, hr_13, ho_15⟩ | ⟨u47, hr_13, hq⟩
  · exact bk_callSt (rest := []) (As := [.int sx0]) (e9 := x9_14) C hT9 hH hl.1 (c_X11_needArgument hst hr_13) ho_15 mc_X11_needArgument st_X11_needArgument ml_RX11_82 rfl ⟨rfl, rfl⟩ ⟨by decide, by decide⟩ rfl (Nat.le_of_ble_eq_true rfl) dX11_best_47 ⟨by decide, by decide⟩ (by decide) (by decide)
  · refine bk_callSr (rest := []) (As := [.int sx0]) (o1 := u47) (ro := none) (Y1 := Y) (V1 := V) rfl C hH hl.1 (c_X11_needArgument hst hr_13) mc_X11_needArgument st_X11_needArgument ml_RX11_82 rfl ⟨rfl, rfl⟩ ⟨by decide, by decide⟩ rfl (Nat.le_of_ble_eq_true rfl) dX11_best_47 ⟨by decide, by decide⟩ (fun H locs hH => ?_)
    refine W.widen (k := 2) (n := 12) (by decide) (by decide) ?_
    refine lv_iconst (v := 2) hx hb dX11_best_50 (by decide) ?_
    refine lv_istore (lv' := [(6, .int 2), (0, .ref a0), (1, .int x1), (2, .int x2), (3, .int x3), (4, .int x4), (5, .int x5)]) hx hb dX11_best_51 hl (by decide) rfl (fun ls hl => ?_)
    refine lv_bipush (v := 20) hx hb dX11_best_53 (by decide) ?_
    refine lv_iload_n hx hb dX11_best_55 rfl (lv_at hl 2 rfl) ?_
    refine lv_imul hx hb dX11_best_56 ?_
    refine lv_istore (lv' := [(7, .int (20 * x1)), (6, .int 2), (0, .ref a0), (1, .int x1), (2, .int x2), (3, .int x3), (4, .int x4), (5, .int x5)]) hx hb dX11_best_57 hl (by decide) rfl (fun ls hl => ?_)
    refine lv_aload_n hx hb dX11_best_59 rfl (lv_at hl 2 rfl) ?_
    refine lv_iload_n hx hb dX11_best_60 rfl (lv_at hl 3 rfl) ?_
    obtain ⟨hs_19, hq⟩ := bk_ck_some hq
    obtain ⟨r_17, V_18, hr_16, hq⟩ := bk_bd2_some hq
    refine bk_callV (rest := []) (As := [.int x1]) (ro := (some (.int r_17))) (Y1 := Y) (V1 := V_18) C hH hl.1 (c_X11_pumpedOver hr_16) mc_X11_pumpedOver mv_X11_pumpedOver lk_RX11_364 hs_19 rfl rfl ⟨rfl, rfl⟩ ⟨by decide, by decide⟩ rfl (Nat.le_of_ble_eq_true rfl) dX11_best_61 ⟨by decide, by decide⟩ (fun H locs hH => ?_)
    refine lv_istore (lv' := [(8, .int r_17), (7, .int (20 * x1)), (6, .int 2), (0, .ref a0), (1, .int x1), (2, .int x2), (3, .int x3), (4, .int x4), (5, .int x5)]) hx hb dX11_best_64 hl (by decide) rfl (fun ls hl => ?_)
    refine lv_iload hx hb dX11_best_66 (lv_at hl 0 rfl) ?_
    refine lv_iconst (v := (-1)) hx hb dX11_best_68 (by decide) ?_
    refine lv_icmp_eq (tgt := 94) hx hb dX11_best_69 (by decide) (fun hc_25 => ?_) (fun hc_25 => ?_)
    · rw [if_pos hc_25] at hq
      exact w_X11_best_94 C hst hT9 _ _ _ _ _ _ _ _ _ _ _ _ _ (lv_sub hl [3, 4, 5, 6, 7, 8, 2, 1] rfl) hH hq
    · rw [if_neg hc_25] at hq
      refine lv_iload_n hx hb dX11_best_72 rfl (lv_at hl 4 rfl) ?_
      refine lv_iload hx hb dX11_best_73 (lv_at hl 0 rfl) ?_
      obtain ⟨r_21, hr_20, hq⟩ := bk_bd_some hq
      refine bk_callS (rest := []) (As := [.int x1, .int r_17]) (ro := (some (.int r_21))) (Y1 := Y) (V1 := V_18) C hH hl.1 (c_X11_minutesRidden hr_20) mc_X11_minutesRidden st_X11_minutesRidden lk_RX11_367 rfl ⟨rfl, rfl⟩ ⟨by decide, by decide⟩ rfl (Nat.le_of_ble_eq_true rfl) dX11_best_75 ⟨by decide, by decide⟩ (fun H locs hH => ?_)
      refine lv_iload hx hb dX11_best_78 (lv_at hl 1 rfl) ?_
      refine lv_icmp_gt (tgt := 94) hx hb dX11_best_80 (by decide) (fun hc_24 => ?_) (fun hc_24 => ?_)
      · rw [if_pos hc_24] at hq
        exact w_X11_best_94 C hst hT9 _ _ _ _ _ _ _ _ _ _ _ _ _ (lv_sub hl [3, 4, 5, 6, 7, 8, 2, 1] rfl) hH hq
      · rw [if_neg hc_24] at hq
        refine lv_iconst (v := 1) hx hb dX11_best_83 (by decide) ?_
        refine lv_istore (lv' := [(6, .int 1), (8, .int r_17), (7, .int (20 * x1)), (0, .ref a0), (1, .int x1), (2, .int x2), (3, .int x3), (4, .int x4), (5, .int x5)]) hx hb dX11_best_84 hl (by decide) rfl (fun ls hl => ?_)
        refine lv_iload_n hx hb dX11_best_86 rfl (lv_at hl 4 rfl) ?_
        refine lv_iload hx hb dX11_best_87 (lv_at hl 1 rfl) ?_
        obtain ⟨r_23, hr_22, hq⟩ := bk_bd_some hq
        refine bk_callS (rest := []) (As := [.int x1, .int r_17]) (ro := (some (.int r_23))) (Y1 := Y) (V1 := V_18) C hH hl.1 (c_X11_minutesRidden hr_22) mc_X11_minutesRidden st_X11_minutesRidden lk_RX11_367 rfl ⟨rfl, rfl⟩ ⟨by decide, by decide⟩ rfl (Nat.le_of_ble_eq_true rfl) dX11_best_89 ⟨by decide, by decide⟩ (fun H locs hH => ?_)
        refine lv_istore (lv' := [(7, .int r_23), (6, .int 1), (8, .int r_17), (0, .ref a0), (1, .int x1), (2, .int x2), (3, .int x3), (4, .int x4), (5, .int x5)]) hx hb dX11_best_92 hl (by decide) rfl (fun ls hl => ?_)
        exact w_X11_best_94 C hst hT9 _ _ _ _ _ _ _ _ _ _ _ _ _ (lv_sub hl [3, 4, 5, 6, 7, 8, 1, 0] rfl) hH hq

set_option maxRecDepth 100000 in
set_option maxHeartbeats 4000000 in
theorem w_X11_best_46 (C : bk_C G p s m args meth c cX11_best RX11 11 (some FieldType.int)) (hst : l.stackTraces = false) (hT9 : ∀ x ∈ c.exceptionTable.toList, False) : ∀ (V : bk_Val) (a0 : Nat) (x1 : Int32) (x2 : Int32) (x3 : Int32) (x4 : Int32) (x5 : Int32) (H : Heap) (locs : List Loc) (ls : Array Slot) (out : Nat ⊕ (Int32 × bk_Val)), lv_has ls 11 [(0, .ref a0), (1, .int x1), (2, .int x2), (3, .int x3), (4, .int x4), (5, .int x5)] → bk_H G Y V s.heap H locs → q_X11_best_46 N Y V a0 x1 x2 x3 x4 x5 = some out → W p l e rm_X11_best s m args below meth c H locs 1 6 (vx_MQ below (bk_QX (fun (o : Int32 × bk_Val) => bk_Q G (some (.int o.1)) Y o.2) out) (bk_XC G Y V out) args s 2 12 (bk_A G)) (F0 m 46 ls []) := by
  have hx := C.1
  have hb := C.2.1
  intro V a0 x1 x2 x3 x4 x5 H locs ls out hl hH hq
  unfold q_X11_best_46 at hq
  refine lv_iconst (v := 0) hx hb dX11_best_46 (by decide) ?_
  exact w_X11_best_47 C hst hT9 _ _ _ _ _ _ _ _ _ _ _ _ (lv_sub hl [0, 1, 2, 3, 4, 5] rfl) hH hq

set_option maxRecDepth 100000 in
set_option maxHeartbeats 4000000 in
theorem w_X11_best (C : bk_C G p s m args meth c cX11_best RX11 11 (some FieldType.int)) (hst : l.stackTraces = false) (hT9 : ∀ x ∈ c.exceptionTable.toList, False) : ∀ (V : bk_Val) (a0 : Nat) (x1 : Int32) (x2 : Int32) (x3 : Int32) (x4 : Int32) (x5 : Int32) (H : Heap) (locs : List Loc) (ls : Array Slot) (out : Nat ⊕ (Int32 × bk_Val)), lv_has ls 11 [(0, .ref a0), (1, .int x1), (2, .int x2), (3, .int x3), (4, .int x4), (5, .int x5)] → bk_H G Y V s.heap H locs → q_X11_best N Y V a0 x1 x2 x3 x4 x5 = some out → W p l e rm_X11_best s m args below meth c H locs 0 0 (vx_MQ below (bk_QX (fun (o : Int32 × bk_Val) => bk_Q G (some (.int o.1)) Y o.2) out) (bk_XC G Y V out) args s 2 12 (bk_A G)) (F0 m 0 ls []) := by
  have hx := C.1
  have hb := C.2.1
  intro V a0 x1 x2 x3 x4 x5 H locs ls out hl hH hq
  unfold q_X11_best at hq
  refine lv_iload hx hb dX11_best_0 (lv_at hl 5 rfl) ?_
  refine lv_iconst (v := 0) hx hb dX11_best_2 (by decide) ?_
  refine lv_iconst (v := 1) hx hb dX11_best_3 (by decide) ?_
  obtain ⟨r_27, hr_26, hq⟩ := bk_bd_some hq
  refine bk_callS (rest := []) (As := [.int x5, .int 0, .int 1]) (ro := (some (.int r_27))) (Y1 := Y) (V1 := V) C hH hl.1 (c_X11_isWithin hr_26) mc_X11_isWithin st_X11_isWithin lk_RX11_78 rfl ⟨rfl, rfl⟩ ⟨by decide, by decide⟩ rfl (Nat.le_of_ble_eq_true rfl) dX11_best_4 ⟨by decide, by decide⟩ (fun H locs hH => ?_)
  rcases bk_bdx_cases hq with ⟨x9_29, hr_28, ho_30⟩ | ⟨u7, hr_28, hq⟩
  · exact bk_callSt (rest := []) (As := [.int r_27]) (e9 := x9_29) C hT9 hH hl.1 (c_X11_needElement hst hr_28) ho_30 mc_X11_needElement st_X11_needElement ml_RX11_214 rfl ⟨rfl, rfl⟩ ⟨by decide, by decide⟩ rfl (Nat.le_of_ble_eq_true rfl) dX11_best_7 ⟨by decide, by decide⟩ (by decide) (by decide)
  · refine bk_callSr (rest := []) (As := [.int r_27]) (o1 := u7) (ro := none) (Y1 := Y) (V1 := V) rfl C hH hl.1 (c_X11_needElement hst hr_28) mc_X11_needElement st_X11_needElement ml_RX11_214 rfl ⟨rfl, rfl⟩ ⟨by decide, by decide⟩ rfl (Nat.le_of_ble_eq_true rfl) dX11_best_7 ⟨by decide, by decide⟩ (fun H locs hH => ?_)
    refine W.widen (k := 1) (n := 6) (by decide) (by decide) ?_
    refine lv_iload_n hx hb dX11_best_10 rfl (lv_at hl 1 rfl) ?_
    refine lv_iconst (v := 0) hx hb dX11_best_11 (by decide) ?_
    refine lv_bipush (v := 60) hx hb dX11_best_12 (by decide) ?_
    obtain ⟨r_32, hr_31, hq⟩ := bk_bd_some hq
    refine bk_callS (rest := []) (As := [.int x1, .int 0, .int 60]) (ro := (some (.int r_32))) (Y1 := Y) (V1 := V) C hH hl.1 (c_X11_isWithin hr_31) mc_X11_isWithin st_X11_isWithin lk_RX11_78 rfl ⟨rfl, rfl⟩ ⟨by decide, by decide⟩ rfl (Nat.le_of_ble_eq_true rfl) dX11_best_14 ⟨by decide, by decide⟩ (fun H locs hH => ?_)
    refine lv_if_eq (tgt := 46) hx hb dX11_best_17 (by decide) (fun hc_42 => ?_) (fun hc_42 => ?_)
    · rw [if_pos hc_42] at hq
      exact w_X11_best_46 C hst hT9 _ _ _ _ _ _ _ _ _ _ _ (lv_sub hl [0, 1, 2, 3, 4, 5] rfl) hH hq
    · rw [if_neg hc_42] at hq
      refine lv_iload_n hx hb dX11_best_20 rfl (lv_at hl 2 rfl) ?_
      obtain ⟨r_34, hr_33, hq⟩ := bk_bd_some hq
      refine bk_callS (rest := []) (As := [.int x2]) (ro := (some (.int r_34))) (Y1 := Y) (V1 := V) C hH hl.1 (c_X11_isHundred hr_33) mc_X11_isHundred st_X11_isHundred lk_RX11_347 rfl ⟨rfl, rfl⟩ ⟨by decide, by decide⟩ rfl (Nat.le_of_ble_eq_true rfl) dX11_best_21 ⟨by decide, by decide⟩ (fun H locs hH => ?_)
      refine lv_if_eq (tgt := 46) hx hb dX11_best_24 (by decide) (fun hc_41 => ?_) (fun hc_41 => ?_)
      · rw [if_pos hc_41] at hq
        exact w_X11_best_46 C hst hT9 _ _ _ _ _ _ _ _ _ _ _ (lv_sub hl [0, 1, 2, 3, 4, 5] rfl) hH hq
      · rw [if_neg hc_41] at hq
        refine lv_iload_n hx hb dX11_best_27 rfl (lv_at hl 3 rfl) ?_
        obtain ⟨r_36, hr_35, hq⟩ := bk_bd_some hq
        refine bk_callS (rest := []) (As := [.int x3]) (ro := (some (.int r_36))) (Y1 := Y) (V1 := V) C hH hl.1 (c_X11_isHundred hr_35) mc_X11_isHundred st_X11_isHundred lk_RX11_347 rfl ⟨rfl, rfl⟩ ⟨by decide, by decide⟩ rfl (Nat.le_of_ble_eq_true rfl) dX11_best_28 ⟨by decide, by decide⟩ (fun H locs hH => ?_)
        refine lv_if_eq (tgt := 46) hx hb dX11_best_31 (by decide) (fun hc_40 => ?_) (fun hc_40 => ?_)
        · rw [if_pos hc_40] at hq
          exact w_X11_best_46 C hst hT9 _ _ _ _ _ _ _ _ _ _ _ (lv_sub hl [0, 1, 2, 3, 4, 5] rfl) hH hq
        · rw [if_neg hc_40] at hq
          refine lv_iload hx hb dX11_best_34 (lv_at hl 4 rfl) ?_
          obtain ⟨r_38, hr_37, hq⟩ := bk_bd_some hq
          refine bk_callS (rest := []) (As := [.int x4]) (ro := (some (.int r_38))) (Y1 := Y) (V1 := V) C hH hl.1 (c_X11_isHundred hr_37) mc_X11_isHundred st_X11_isHundred lk_RX11_347 rfl ⟨rfl, rfl⟩ ⟨by decide, by decide⟩ rfl (Nat.le_of_ble_eq_true rfl) dX11_best_36 ⟨by decide, by decide⟩ (fun H locs hH => ?_)
          refine lv_if_eq (tgt := 46) hx hb dX11_best_39 (by decide) (fun hc_39 => ?_) (fun hc_39 => ?_)
          · rw [if_pos hc_39] at hq
            exact w_X11_best_46 C hst hT9 _ _ _ _ _ _ _ _ _ _ _ (lv_sub hl [0, 1, 2, 3, 4, 5] rfl) hH hq
          · rw [if_neg hc_39] at hq
            refine lv_iconst (v := 1) hx hb dX11_best_42 (by decide) ?_
            refine lv_goto (tgt := 47) hx hb dX11_best_43 (by decide) ?_
            exact w_X11_best_47 C hst hT9 _ _ _ _ _ _ _ _ _ _ _ _ (lv_sub hl [0, 1, 2, 3, 4, 5] rfl) hH hq
set_option maxRecDepth 100000 in
theorem c_X11_best {l : Launch} {G : bk_G} {N : Nat} {Y : bk_Lay} {V : bk_Val} (hst : l.stackTraces = false) {a0 : Nat} {x1 : Int32} {x2 : Int32} {x3 : Int32} {x4 : Int32} {x5 : Int32} {out : Nat ⊕ (Int32 × bk_Val)} (hq : q_X11_best N Y V a0 x1 x2 x3 x4 x5 = some out) : vx_Met l yX11_best (bk_ws yX11_best cX11_best 11 (some FieldType.int)) rm_X11_best (bk_Pc G [.ref a0, .int x1, .int x2, .int x3, .int x4, .int x5] Y V) (bk_QX (fun (o : Int32 × bk_Val) => bk_Q G (some (.int o.1)) Y o.2) out) (bk_XC G Y V out) 2 12 (bk_A G) :=
  bk_metx (by decide) (Nat.le_of_ble_eq_true rfl) (fun p e s m args below meth c ls C hT9 hH hl => w_X11_best C hst hT9 _ _ _ _ _ _ _ _ _ _ _ hl hH hq)

def rm_X11_hole : Room := bk_rm 10 2 12 241
set_option maxRecDepth 100000 in
set_option maxHeartbeats 4000000 in
theorem w_X11_hole (C : bk_C G p s m args meth c cX11_hole RX11 3 (some FieldType.int)) (hst : l.stackTraces = false) (hT9 : ∀ x ∈ c.exceptionTable.toList, False) : ∀ (V : bk_Val) (a0 : Nat) (x1 : Int32) (x2 : Int32) (H : Heap) (locs : List Loc) (ls : Array Slot) (out : Nat ⊕ (Int32)), lv_has ls 3 [(0, .ref a0), (1, .int x1), (2, .int x2)] → bk_H G Y V s.heap H locs → q_X11_hole N Y V a0 x1 x2 = some out → W p l e rm_X11_hole s m args below meth c H locs 0 0 (vx_MQ below (bk_QX (fun (o : Int32) => bk_Q G (some (.int o)) Y V) out) (bk_XC G Y V out) args s 2 12 (bk_A G)) (F0 m 0 ls []) := by
  have hx := C.1
  have hb := C.2.1
  intro V a0 x1 x2 H locs ls out hl hH hq
  unfold q_X11_hole at hq
  refine lv_aload_n hx hb dX11_hole_0 rfl (lv_at hl 0 rfl) ?_
  refine lv_iload_n hx hb dX11_hole_1 rfl (lv_at hl 1 rfl) ?_
  obtain ⟨hs_2, hq⟩ := bk_ck_some hq
  rcases bk_bdx_cases hq with ⟨x9_3, hr_1, ho_4⟩ | ⟨u2, hr_1, hq⟩
  · exact bk_callVt (rest := []) (As := [.int x1]) (e9 := x9_3) C hT9 hH hl.1 (c_X11_needHole hst hr_1) ho_4 mc_X11_needHole mv_X11_needHole ml_RX11_160 hs_2 rfl rfl ⟨rfl, rfl⟩ ⟨by decide, by decide⟩ rfl (Nat.le_of_ble_eq_true rfl) dX11_hole_2 ⟨by decide, by decide⟩ (by decide) (by decide)
  · refine bk_callVr (rest := []) (As := [.int x1]) (o1 := u2) (ro := none) (Y1 := Y) (V1 := V) rfl C hH hl.1 (c_X11_needHole hst hr_1) mc_X11_needHole mv_X11_needHole ml_RX11_160 hs_2 rfl rfl ⟨rfl, rfl⟩ ⟨by decide, by decide⟩ rfl (Nat.le_of_ble_eq_true rfl) dX11_hole_2 ⟨by decide, by decide⟩ (fun H locs hH => ?_)
    refine W.widen (k := 1) (n := 6) (by decide) (by decide) ?_
    refine lv_iload_n hx hb dX11_hole_5 rfl (lv_at hl 2 rfl) ?_
    refine lv_topi (fun sw_5 e_6 => ?_)
    have hq := bk_let_eq e_6 hq
    by_cases hc_17 : sw_5 = 0
    · rw [if_pos hc_17] at hq
      refine lv_tableIn (off := 34) (tgt := 40) hx hb dX11_hole_6 (by rw [hc_17]; decide) (by rw [hc_17]; decide) (by rw [hc_17]; decide) (by decide) ?_
      refine lv_aload_n hx hb dX11_hole_40 rfl (lv_at hl 0 rfl) ?_
      obtain ⟨b_7, hr_8, hq⟩ := bk_bd_some hq
      refine bk_getr C hH fl_RX11_33 hs_2 rfl hr_8 dX11_hole_41 ?_
      obtain ⟨hs_9, hq⟩ := bk_ck_some hq
      obtain ⟨b_10, hr_11, hq⟩ := bk_bd_some hq
      refine bk_getr C hH fl_RX11_121 hs_9 rfl hr_11 dX11_hole_44 ?_
      obtain ⟨hs_12, hq⟩ := bk_ck_some hq
      obtain ⟨b_13, hr_14, hq⟩ := bk_bd_some hq
      refine bk_getr C hH fl_RX11_163 hs_12 rfl hr_14 dX11_hole_47 ?_
      refine lv_iload_n hx hb dX11_hole_50 rfl (lv_at hl 1 rfl) ?_
      obtain ⟨ha_15, hq⟩ := bk_ck_some hq
      obtain ⟨hi_16, hq⟩ := bk_ck_some hq
      refine bk_iald C hH (bk_arr ha_15) (bk_in_vp hi_16) dX11_hole_51 ?_
      refine W.widen (k := 2) (n := 12) (by decide) (by decide) ?_
      refine vx_ret ?_
      cases hq
      exact bk_iret C hH dX11_hole_52
    · rw [if_neg hc_17] at hq
      by_cases hc_28 : sw_5 = 1
      · rw [if_pos hc_28] at hq
        refine lv_tableIn (off := 47) (tgt := 53) hx hb dX11_hole_6 (by rw [hc_28]; decide) (by rw [hc_28]; decide) (by rw [hc_28]; decide) (by decide) ?_
        refine lv_aload_n hx hb dX11_hole_53 rfl (lv_at hl 0 rfl) ?_
        obtain ⟨b_18, hr_19, hq⟩ := bk_bd_some hq
        refine bk_getr C hH fl_RX11_33 hs_2 rfl hr_19 dX11_hole_54 ?_
        obtain ⟨hs_20, hq⟩ := bk_ck_some hq
        obtain ⟨b_21, hr_22, hq⟩ := bk_bd_some hq
        refine bk_getr C hH fl_RX11_121 hs_20 rfl hr_22 dX11_hole_57 ?_
        obtain ⟨hs_23, hq⟩ := bk_ck_some hq
        obtain ⟨b_24, hr_25, hq⟩ := bk_bd_some hq
        refine bk_getr C hH fl_RX11_166 hs_23 rfl hr_25 dX11_hole_60 ?_
        refine lv_iload_n hx hb dX11_hole_63 rfl (lv_at hl 1 rfl) ?_
        obtain ⟨ha_26, hq⟩ := bk_ck_some hq
        obtain ⟨hi_27, hq⟩ := bk_ck_some hq
        refine bk_iald C hH (bk_arr ha_26) (bk_in_vp hi_27) dX11_hole_64 ?_
        refine W.widen (k := 2) (n := 12) (by decide) (by decide) ?_
        refine vx_ret ?_
        cases hq
        exact bk_iret C hH dX11_hole_65
      · rw [if_neg hc_28] at hq
        by_cases hc_39 : sw_5 = 2
        · rw [if_pos hc_39] at hq
          refine lv_tableIn (off := 60) (tgt := 66) hx hb dX11_hole_6 (by rw [hc_39]; decide) (by rw [hc_39]; decide) (by rw [hc_39]; decide) (by decide) ?_
          refine lv_aload_n hx hb dX11_hole_66 rfl (lv_at hl 0 rfl) ?_
          obtain ⟨b_29, hr_30, hq⟩ := bk_bd_some hq
          refine bk_getr C hH fl_RX11_33 hs_2 rfl hr_30 dX11_hole_67 ?_
          obtain ⟨hs_31, hq⟩ := bk_ck_some hq
          obtain ⟨b_32, hr_33, hq⟩ := bk_bd_some hq
          refine bk_getr C hH fl_RX11_121 hs_31 rfl hr_33 dX11_hole_70 ?_
          obtain ⟨hs_34, hq⟩ := bk_ck_some hq
          obtain ⟨b_35, hr_36, hq⟩ := bk_bd_some hq
          refine bk_getr C hH fl_RX11_169 hs_34 rfl hr_36 dX11_hole_73 ?_
          refine lv_iload_n hx hb dX11_hole_76 rfl (lv_at hl 1 rfl) ?_
          obtain ⟨ha_37, hq⟩ := bk_ck_some hq
          obtain ⟨hi_38, hq⟩ := bk_ck_some hq
          refine bk_iald C hH (bk_arr ha_37) (bk_in_vp hi_38) dX11_hole_77 ?_
          refine W.widen (k := 2) (n := 12) (by decide) (by decide) ?_
          refine vx_ret ?_
          cases hq
          exact bk_iret C hH dX11_hole_78
        · rw [if_neg hc_39] at hq
          by_cases hc_49 : sw_5 = 3
          · rw [if_pos hc_49] at hq
            refine lv_tableIn (off := 73) (tgt := 79) hx hb dX11_hole_6 (by rw [hc_49]; decide) (by rw [hc_49]; decide) (by rw [hc_49]; decide) (by decide) ?_
            refine lv_aload_n hx hb dX11_hole_79 rfl (lv_at hl 0 rfl) ?_
            obtain ⟨b_40, hr_41, hq⟩ := bk_bd_some hq
            refine bk_getr C hH fl_RX11_33 hs_2 rfl hr_41 dX11_hole_80 ?_
            obtain ⟨hs_42, hq⟩ := bk_ck_some hq
            obtain ⟨b_43, hr_44, hq⟩ := bk_bd_some hq
            refine bk_getr C hH fl_RX11_121 hs_42 rfl hr_44 dX11_hole_83 ?_
            refine lv_iload_n hx hb dX11_hole_86 rfl (lv_at hl 1 rfl) ?_
            obtain ⟨hs_47, hq⟩ := bk_ck_some hq
            obtain ⟨r_46, hr_45, hq⟩ := bk_bd_some hq
            refine bk_callV (rest := []) (As := [.int x1]) (ro := (some (.int r_46))) (Y1 := Y) (V1 := V) C hH hl.1 (c_X1_isSlow hr_45) mc_X1_isSlow mv_X1_isSlow lk_RX11_172 hs_47 rfl rfl ⟨rfl, rfl⟩ ⟨by decide, by decide⟩ rfl (Nat.le_of_ble_eq_true rfl) dX11_hole_87 ⟨by decide, by decide⟩ (fun H locs hH => ?_)
            refine lv_if_eq (tgt := 97) hx hb dX11_hole_90 (by decide) (fun hc_48 => ?_) (fun hc_48 => ?_)
            · rw [if_pos hc_48] at hq
              refine lv_iconst (v := 0) hx hb dX11_hole_97 (by decide) ?_
              refine W.widen (k := 2) (n := 12) (by decide) (by decide) ?_
              refine vx_ret ?_
              cases hq
              exact bk_iret C hH dX11_hole_98
            · rw [if_neg hc_48] at hq
              refine lv_iconst (v := 1) hx hb dX11_hole_93 (by decide) ?_
              refine lv_goto (tgt := 98) hx hb dX11_hole_94 (by decide) ?_
              refine W.widen (k := 2) (n := 12) (by decide) (by decide) ?_
              refine vx_ret ?_
              cases hq
              exact bk_iret C hH dX11_hole_98
          · rw [if_neg hc_49] at hq
            by_cases hc_53 : sw_5 = 4
            · rw [if_pos hc_53] at hq
              refine lv_tableIn (off := 93) (tgt := 99) hx hb dX11_hole_6 (by rw [hc_53]; decide) (by rw [hc_53]; decide) (by rw [hc_53]; decide) (by decide) ?_
              refine lv_aload_n hx hb dX11_hole_99 rfl (lv_at hl 0 rfl) ?_
              obtain ⟨b_50, hr_51, hq⟩ := bk_bd_some hq
              refine bk_getr C hH fl_RX11_63 hs_2 rfl hr_51 dX11_hole_100 ?_
              obtain ⟨hs_52, hq⟩ := bk_ck_some hq
              refine bk_geti C hH fl_RX11_176 hs_52 rfl dX11_hole_103 ?_
              refine lv_iload_n hx hb dX11_hole_106 rfl (lv_at hl 1 rfl) ?_
              refine bk_ishr hx hb dX11_hole_107 ?_
              refine lv_iconst (v := 1) hx hb dX11_hole_108 (by decide) ?_
              refine lv_iand hx hb dX11_hole_109 ?_
              refine W.widen (k := 2) (n := 12) (by decide) (by decide) ?_
              refine vx_ret ?_
              cases hq
              exact bk_iret C hH dX11_hole_110
            · rw [if_neg hc_53] at hq
              refine lv_tableOut (tgt := 111) hx hb dX11_hole_6 (by have n0 := bk_neI (k := 0) hc_17 (by decide) (by decide); have n1 := bk_neI (k := 1) hc_28 (by decide) (by decide); have n2 := bk_neI (k := 2) hc_39 (by decide) (by decide); have n3 := bk_neI (k := 3) hc_49 (by decide) (by decide); have n4 := bk_neI (k := 4) hc_53 (by decide) (by decide); omega) (by decide) ?_
              cases hq
              exact bk_throwX (i := 38) (e9 := 1) (tx := "no such thing of a hole") C hst hT9 hH hl.1 rfl rfl x0_1 x1_1 x2_1 x5_1 cl_RX11_153 in_exc1 cx_1 lx_1 (by decide) (by decide) tw1_157 tw2_157 tw3_157_153 dX11_hole_111 dX11_hole_114 (Or.inl ⟨rfl, dX11_hole_115⟩) dX11_hole_117 dX11_hole_120 (by decide) (by decide) (by decide) (by decide) (by decide) (by decide)
set_option maxRecDepth 100000 in
theorem c_X11_hole {l : Launch} {G : bk_G} {N : Nat} {Y : bk_Lay} {V : bk_Val} (hst : l.stackTraces = false) {a0 : Nat} {x1 : Int32} {x2 : Int32} {out : Nat ⊕ (Int32)} (hq : q_X11_hole N Y V a0 x1 x2 = some out) : vx_Met l yX11_hole (bk_ws yX11_hole cX11_hole 3 (some FieldType.int)) rm_X11_hole (bk_Pc G [.ref a0, .int x1, .int x2] Y V) (bk_QX (fun (o : Int32) => bk_Q G (some (.int o)) Y V) out) (bk_XC G Y V out) 2 12 (bk_A G) :=
  bk_metx (by decide) (Nat.le_of_ble_eq_true rfl) (fun p e s m args below meth c ls C hT9 hH hl => w_X11_hole C hst hT9 _ _ _ _ _ _ _ _ hl hH hq)

def rm_X11_seek : Room := bk_rm 9 1 6 220
set_option maxRecDepth 100000 in
set_option maxHeartbeats 4000000 in
theorem w_X11_seek (C : bk_C G p s m args meth c cX11_seek RX11 4 (some FieldType.int)) (hst : l.stackTraces = false) (hT9 : ∀ x ∈ c.exceptionTable.toList, False) : ∀ (Y : bk_Lay) (V : bk_Val) (a0 : Nat) (x1 : Int32) (x2 : Int32) (x3 : Int32) (H : Heap) (locs : List Loc) (ls : Array Slot) (out : Nat ⊕ (Int32 × bk_Lay × bk_Val)), lv_has ls 4 [(0, .ref a0), (1, .int x1), (2, .int x2), (3, .int x3)] → bk_H G Y V s.heap H locs → q_X11_seek N Y V a0 x1 x2 x3 = some out → W p l e rm_X11_seek s m args below meth c H locs 0 0 (vx_MQ below (bk_QX (fun (o : Int32 × bk_Lay × bk_Val) => bk_Q G (some (.int o.1)) o.2.1 o.2.2) out) (bk_XC G Y V out) args s 1 6 (bk_A G)) (F0 m 0 ls []) := by
  have hx := C.1
  have hb := C.2.1
  intro Y V a0 x1 x2 x3 H locs ls out hl hH hq
  unfold q_X11_seek at hq
  refine lv_iload_n hx hb dX11_seek_0 rfl (lv_at hl 3 rfl) ?_
  refine lv_iconst (v := 0) hx hb dX11_seek_1 (by decide) ?_
  refine lv_iconst (v := 1) hx hb dX11_seek_2 (by decide) ?_
  obtain ⟨r_2, hr_1, hq⟩ := bk_bd_some hq
  refine bk_callS (rest := []) (As := [.int x3, .int 0, .int 1]) (ro := (some (.int r_2))) (Y1 := Y) (V1 := V) C hH hl.1 (c_X11_isWithin hr_1) mc_X11_isWithin st_X11_isWithin lk_RX11_78 rfl ⟨rfl, rfl⟩ ⟨by decide, by decide⟩ rfl (Nat.le_of_ble_eq_true rfl) dX11_seek_3 ⟨by decide, by decide⟩ (fun H locs hH => ?_)
  rcases bk_bdx_cases hq with ⟨x9_4, hr_3, ho_5⟩ | ⟨u6, hr_3, hq⟩
  · exact bk_callSt (rest := []) (As := [.int r_2]) (e9 := x9_4) C hT9 hH hl.1 (c_X11_needElement hst hr_3) ho_5 mc_X11_needElement st_X11_needElement ml_RX11_214 rfl ⟨rfl, rfl⟩ ⟨by decide, by decide⟩ rfl (Nat.le_of_ble_eq_true rfl) dX11_seek_6 ⟨by decide, by decide⟩ (by decide) (by decide)
  · refine bk_callSr (rest := []) (As := [.int r_2]) (o1 := u6) (ro := none) (Y1 := Y) (V1 := V) rfl C hH hl.1 (c_X11_needElement hst hr_3) mc_X11_needElement st_X11_needElement ml_RX11_214 rfl ⟨rfl, rfl⟩ ⟨by decide, by decide⟩ rfl (Nat.le_of_ble_eq_true rfl) dX11_seek_6 ⟨by decide, by decide⟩ (fun H locs hH => ?_)
    refine W.widen (k := 1) (n := 6) (by decide) (by decide) ?_
    refine lv_aload_n hx hb dX11_seek_9 rfl (lv_at hl 0 rfl) ?_
    refine lv_iload_n hx hb dX11_seek_10 rfl (lv_at hl 1 rfl) ?_
    refine lv_aload_n hx hb dX11_seek_11 rfl (lv_at hl 0 rfl) ?_
    refine lv_iload_n hx hb dX11_seek_12 rfl (lv_at hl 2 rfl) ?_
    obtain ⟨hs_8, hq⟩ := bk_ck_some hq
    obtain ⟨r_7, hr_6, hq⟩ := bk_bd_some hq
    refine bk_callV (rest := [.int x1, .ref a0]) (As := [.int x2]) (ro := (some (.int r_7))) (Y1 := Y) (V1 := V) C hH hl.1 (c_X11_leakingHoles hr_6) mc_X11_leakingHoles mv_X11_leakingHoles lk_RX11_181 hs_8 rfl rfl ⟨rfl, rfl⟩ ⟨by decide, by decide⟩ rfl (Nat.le_of_ble_eq_true rfl) dX11_seek_13 ⟨by decide, by decide⟩ (fun H locs hH => ?_)
    refine lv_iconst (v := 0) hx hb dX11_seek_16 (by decide) ?_
    obtain ⟨r_10, Y_11, V_12, hr_9, hq⟩ := bk_bd3_some hq
    refine bk_callV (rest := []) (As := [.int x1, .int r_7, .int 0]) (ro := (some (.int r_10))) (Y1 := Y_11) (V1 := V_12) C hH hl.1 (c_X11_findBy hr_9) mc_X11_findBy mv_X11_findBy lk_RX11_306 hs_8 rfl rfl ⟨rfl, rfl⟩ ⟨by decide, by decide⟩ rfl (Nat.le_of_ble_eq_true rfl) dX11_seek_17 ⟨by decide, by decide⟩ (fun H locs hH => ?_)
    refine lv_iload_n hx hb dX11_seek_20 rfl (lv_at hl 3 rfl) ?_
    obtain ⟨r_14, hr_13, hq⟩ := bk_bd_some hq
    refine bk_callS (rest := []) (As := [.int r_10, .int x3]) (ro := (some (.int r_14))) (Y1 := Y_11) (V1 := V_12) C hH hl.1 (c_X11_partOfFind hr_13) mc_X11_partOfFind st_X11_partOfFind lk_RX11_310 rfl ⟨rfl, rfl⟩ ⟨by decide, by decide⟩ rfl (Nat.le_of_ble_eq_true rfl) dX11_seek_21 ⟨by decide, by decide⟩ (fun H locs hH => ?_)
    refine vx_ret ?_
    cases hq
    exact bk_iret C hH dX11_seek_24
set_option maxRecDepth 100000 in
theorem c_X11_seek {l : Launch} {G : bk_G} {N : Nat} {Y : bk_Lay} {V : bk_Val} (hst : l.stackTraces = false) {a0 : Nat} {x1 : Int32} {x2 : Int32} {x3 : Int32} {out : Nat ⊕ (Int32 × bk_Lay × bk_Val)} (hq : q_X11_seek N Y V a0 x1 x2 x3 = some out) : vx_Met l yX11_seek (bk_ws yX11_seek cX11_seek 4 (some FieldType.int)) rm_X11_seek (bk_Pc G [.ref a0, .int x1, .int x2, .int x3] Y V) (bk_QX (fun (o : Int32 × bk_Lay × bk_Val) => bk_Q G (some (.int o.1)) o.2.1 o.2.2) out) (bk_XC G Y V out) 1 6 (bk_A G) :=
  bk_metx (by decide) (Nat.le_of_ble_eq_true rfl) (fun p e s m args below meth c ls C hT9 hH hl => w_X11_seek C hst hT9 _ _ _ _ _ _ _ _ _ _ hl hH hq)
end
