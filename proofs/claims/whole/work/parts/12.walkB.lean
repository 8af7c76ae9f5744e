section
variable {p : Program} {l : Launch} {e : Env} {s : State} {m : MethodId} {args : Array Value} {below : List Frame} {meth : Method} {c : Code} {G : bk_G} {N : Nat} {Y : bk_Lay}
def rm_X7_hasRoom : Room := bk_rm 0 0 0 0
set_option maxRecDepth 100000 in
set_option maxHeartbeats 4000000 in
theorem w_X7_hasRoom (C : bk_C G p s m args meth c cX7_hasRoom RX7 1 (some FieldType.boolean)) : ∀ (V : bk_Val) (a0 : Nat) (H : Heap) (locs : List Loc) (ls : Array Slot) (out : Int32), lv_has ls 1 [(0, .ref a0)] → bk_H G Y V s.heap H locs → q_X7_hasRoom N Y V a0 = some out → W p l e rm_X7_hasRoom s m args below meth c H locs 0 0 (MQ below (bk_Q G (some (.int out)) Y V) args s 0 0 (bk_A G)) (F0 m 0 ls []) := by
  have hx := C.1
  have hb := C.2.1
  intro V a0 H locs ls out hl hH hq
  unfold q_X7_hasRoom at hq
  refine lv_aload_n hx hb dX7_hasRoom_0 rfl (lv_at hl 0 rfl) ?_
  obtain ⟨hs_1, hq⟩ := bk_ck_some hq
  refine bk_geti C hH fl_RX7_15 hs_1 rfl dX7_hasRoom_1 ?_
  refine lv_bipush (v := 20) hx hb dX7_hasRoom_4 (by decide) ?_
  refine lv_iadd hx hb dX7_hasRoom_6 ?_
  refine lv_sipush (v := 700) hx hb dX7_hasRoom_7 (by decide) ?_
  refine lv_icmp_gt (tgt := 17) hx hb dX7_hasRoom_10 (by decide) (fun hc_2 => ?_) (fun hc_2 => ?_)
  · rw [if_pos hc_2] at hq
    refine lv_iconst (v := 0) hx hb dX7_hasRoom_17 (by decide) ?_
    cases hq
    exact bk_zret C hH (Or.inl rfl) dX7_hasRoom_18
  · rw [if_neg hc_2] at hq
    refine lv_iconst (v := 1) hx hb dX7_hasRoom_13 (by decide) ?_
    refine lv_goto (tgt := 18) hx hb dX7_hasRoom_14 (by decide) ?_
    cases hq
    exact bk_zret C hH (Or.inr rfl) dX7_hasRoom_18
set_option maxRecDepth 100000 in
theorem c_X7_hasRoom {l : Launch} {G : bk_G} {N : Nat} {Y : bk_Lay} {V : bk_Val} {a0 : Nat} {out : Int32} (hq : q_X7_hasRoom N Y V a0 = some out) : Met l yX7_hasRoom (bk_ws yX7_hasRoom cX7_hasRoom 1 (some FieldType.boolean)) rm_X7_hasRoom (bk_Pc G [.ref a0] Y V) (bk_Q G (some (.int out)) Y V) 0 0 (bk_A G) :=
  bk_met (by decide) (Nat.le_of_ble_eq_true rfl) (fun p e s m args below meth c ls C hnm hH hl => w_X7_hasRoom C _ _ _ _ _ _ hl hH hq)

def rm_X7_add : Room := bk_rm 0 0 0 0
set_option maxRecDepth 100000 in
set_option maxHeartbeats 4000000 in
theorem w_X7_add_40 (C : bk_C G p s m args meth c cX7_add RX7 3 (none : Option FieldType)) (k3 : bk_Val → Nat → Int32 → Int32 → Option (bk_Val)) (i3 : ∀ (V : bk_Val) (a0 : Nat) (x1 : Int32) (x2 : Int32) (H : Heap) (locs : List Loc) (ls : Array Slot) (out : bk_Val), lv_has ls 3 [(0, .ref a0), (1, .int x1), (2, .int x2)] → bk_H G Y V s.heap H locs → k3 V a0 x1 x2 = some out → W p l e rm_X7_add s m args below meth c H locs 0 0 (MQ below (bk_Q G none Y out) args s 0 0 (bk_A G)) (F0 m 3 ls [])) : ∀ (V : bk_Val) (a0 : Nat) (x1 : Int32) (x2 : Int32) (H : Heap) (locs : List Loc) (ls : Array Slot) (out : bk_Val), lv_has ls 3 [(0, .ref a0), (1, .int x1), (2, .int x2)] → bk_H G Y V s.heap H locs → q_X7_add_40 N Y k3 V a0 x1 x2 = some out → W p l e rm_X7_add s m args below meth c H locs 0 0 (MQ below (bk_Q G none Y out) args s 0 0 (bk_A G)) (F0 m 40 ls []) := by
  have hx := C.1
  have hb := C.2.1
  intro V a0 x1 x2 H locs ls out hl hH hq
  unfold q_X7_add_40 at hq
  refine lv_iinc (v := (x2 + (-8))) (lv' := [(2, .int (x2 + (-8))), (0, .ref a0), (1, .int x1)]) hx hb dX7_add_40 hl (k := 2) rfl rfl (by decide) rfl (fun ls hl => ?_)
  refine lv_goto (tgt := 3) hx hb dX7_add_43 (by decide) ?_
  exact i3 _ _ _ _ _ _ _ _ (lv_sub hl [1, 2, 0] rfl) hH hq

set_option maxRecDepth 100000 in
set_option maxHeartbeats 4000000 in
theorem w_X7_add_3 (C : bk_C G p s m args meth c cX7_add RX7 3 (none : Option FieldType)) : ∀ (n : Nat), ∀ (V : bk_Val) (a0 : Nat) (x1 : Int32) (x2 : Int32) (H : Heap) (locs : List Loc) (ls : Array Slot) (out : bk_Val), lv_has ls 3 [(0, .ref a0), (1, .int x1), (2, .int x2)] → bk_H G Y V s.heap H locs → q_X7_add_3 N Y n V a0 x1 x2 = some out → W p l e rm_X7_add s m args below meth c H locs 0 0 (MQ below (bk_Q G none Y out) args s 0 0 (bk_A G)) (F0 m 3 ls []) := by
  have hx := C.1
  have hb := C.2.1
  intro n
  induction n with
  | zero =>
    intro V a0 x1 x2 H locs ls out hl hH hq
    exact nomatch (show (none : Option (bk_Val)) = some out from hq)
  | succ n ih =>
    intro V a0 x1 x2 H locs ls out hl hH hq
    unfold q_X7_add_3 at hq
    refine lv_iload_n hx hb dX7_add_3 rfl (lv_at hl 2 rfl) ?_
    refine lv_if_lt (tgt := 46) hx hb dX7_add_4 (by decide) (fun hc_11 => ?_) (fun hc_11 => ?_)
    · rw [if_pos hc_11] at hq
      cases hq
      exact bk_vret C hH dX7_add_46
    · rw [if_neg hc_11] at hq
      refine lv_aload_n hx hb dX7_add_7 rfl (lv_at hl 0 rfl) ?_
      obtain ⟨hs_1, hq⟩ := bk_ck_some hq
      refine bk_geti C hH fl_RX7_15 hs_1 rfl dX7_add_8 ?_
      refine lv_sipush (v := 700) hx hb dX7_add_11 (by decide) ?_
      refine lv_icmp_ge (tgt := 40) hx hb dX7_add_14 (by decide) (fun hc_10 => ?_) (fun hc_10 => ?_)
      · rw [if_pos hc_10] at hq
        exact w_X7_add_40 C _ ih _ _ _ _ _ _ _ _ (lv_sub hl [0, 1, 2] rfl) hH hq
      · rw [if_neg hc_10] at hq
        refine lv_aload_n hx hb dX7_add_17 rfl (lv_at hl 0 rfl) ?_
        obtain ⟨b_2, hr_3, hq⟩ := bk_bd_some hq
        refine bk_getr C hH fl_RX7_9 hs_1 rfl hr_3 dX7_add_18 ?_
        refine lv_aload_n hx hb dX7_add_21 rfl (lv_at hl 0 rfl) ?_
        refine bk_geti C hH fl_RX7_15 hs_1 rfl dX7_add_22 ?_
        refine lv_iload_n hx hb dX7_add_25 rfl (lv_at hl 1 rfl) ?_
        refine lv_iload_n hx hb dX7_add_26 rfl (lv_at hl 2 rfl) ?_
        refine bk_ishr hx hb dX7_add_27 ?_
        refine bk_xi2b hx hb dX7_add_28 ?_
        obtain ⟨ha_4, hq⟩ := bk_ck_some hq
        obtain ⟨hi_5, hq⟩ := bk_ck_some hq
        refine bk_bast C hH (bk_arr ha_4) (bk_in_vp hi_5) dX7_add_29 (fun V_6 H locs e_7 hH => ?_)
        have hq := bk_let_eq e_7 hq
        refine lv_aload_n hx hb dX7_add_30 rfl (lv_at hl 0 rfl) ?_
        refine lv_dup hx hb dX7_add_31 rfl ?_
        refine bk_geti C hH fl_RX7_15 hs_1 rfl dX7_add_32 ?_
        refine lv_iconst (v := 1) hx hb dX7_add_35 (by decide) ?_
        refine lv_iadd hx hb dX7_add_36 ?_
        refine bk_puti C hH fp_RX7_15 (fun h => by cases h) hs_1 rfl dX7_add_37 (fun V_8 H locs e_9 hH => ?_)
        have hq := bk_let_eq e_9 hq
        exact w_X7_add_40 C _ ih _ _ _ _ _ _ _ _ (lv_sub hl [0, 1, 2] rfl) hH hq

set_option maxRecDepth 100000 in
set_option maxHeartbeats 4000000 in
theorem w_X7_add (C : bk_C G p s m args meth c cX7_add RX7 3 (none : Option FieldType)) : ∀ (V : bk_Val) (a0 : Nat) (x1 : Int32) (H : Heap) (locs : List Loc) (ls : Array Slot) (out : bk_Val), lv_has ls 3 [(0, .ref a0), (1, .int x1)] → bk_H G Y V s.heap H locs → q_X7_add N Y V a0 x1 = some out → W p l e rm_X7_add s m args below meth c H locs 0 0 (MQ below (bk_Q G none Y out) args s 0 0 (bk_A G)) (F0 m 0 ls []) := by
  have hx := C.1
  have hb := C.2.1
  intro V a0 x1 H locs ls out hl hH hq
  unfold q_X7_add at hq
  refine lv_bipush (v := 24) hx hb dX7_add_0 (by decide) ?_
  refine lv_istore_n (lv' := [(2, .int 24), (0, .ref a0), (1, .int x1)]) hx hb dX7_add_2 rfl hl (by decide) rfl (fun ls hl => ?_)
  exact w_X7_add_3 C _ _ _ _ _ _ _ _ _ (lv_sub hl [1, 2, 0] rfl) hH hq
set_option maxRecDepth 100000 in
theorem c_X7_add {l : Launch} {G : bk_G} {N : Nat} {Y : bk_Lay} {V : bk_Val} {a0 : Nat} {x1 : Int32} {out : bk_Val} (hq : q_X7_add N Y V a0 x1 = some out) : Met l yX7_add (bk_ws yX7_add cX7_add 3 (none : Option FieldType)) rm_X7_add (bk_Pc G [.ref a0, .int x1] Y V) (bk_Q G none Y out) 0 0 (bk_A G) :=
  bk_met (by decide) (Nat.le_of_ble_eq_true rfl) (fun p e s m args below meth c ls C hnm hH hl => w_X7_add C _ _ _ _ _ _ _ hl hH hq)

def rm_X1_isSlow : Room := bk_rm 0 0 0 0
set_option maxRecDepth 100000 in
set_option maxHeartbeats 4000000 in
theorem w_X1_isSlow (C : bk_C G p s m args meth c cX1_isSlow RX1 2 (some FieldType.boolean)) : ∀ (V : bk_Val) (a0 : Nat) (x1 : Int32) (H : Heap) (locs : List Loc) (ls : Array Slot) (out : Int32), lv_has ls 2 [(0, .ref a0), (1, .int x1)] → bk_H G Y V s.heap H locs → q_X1_isSlow N Y V a0 x1 = some out → W p l e rm_X1_isSlow s m args below meth c H locs 0 0 (MQ below (bk_Q G (some (.int out)) Y V) args s 0 0 (bk_A G)) (F0 m 0 ls []) := by
  have hx := C.1
  have hb := C.2.1
  intro V a0 x1 H locs ls out hl hH hq
  unfold q_X1_isSlow at hq
  refine lv_aload_n hx hb dX1_isSlow_0 rfl (lv_at hl 0 rfl) ?_
  obtain ⟨hs_1, hq⟩ := bk_ck_some hq
  refine bk_geti C hH fl_RX1_25 hs_1 rfl dX1_isSlow_1 ?_
  refine lv_iload_n hx hb dX1_isSlow_4 rfl (lv_at hl 1 rfl) ?_
  refine bk_ishr hx hb dX1_isSlow_5 ?_
  refine lv_iconst (v := 1) hx hb dX1_isSlow_6 (by decide) ?_
  refine lv_iand hx hb dX1_isSlow_7 ?_
  refine lv_iconst (v := 1) hx hb dX1_isSlow_8 (by decide) ?_
  refine lv_icmp_ne (tgt := 16) hx hb dX1_isSlow_9 (by decide) (fun hc_2 => ?_) (fun hc_2 => ?_)
  · rw [if_neg hc_2] at hq
    refine lv_iconst (v := 0) hx hb dX1_isSlow_16 (by decide) ?_
    cases hq
    exact bk_zret C hH (Or.inl rfl) dX1_isSlow_17
  · rw [if_pos hc_2] at hq
    refine lv_iconst (v := 1) hx hb dX1_isSlow_12 (by decide) ?_
    refine lv_goto (tgt := 17) hx hb dX1_isSlow_13 (by decide) ?_
    cases hq
    exact bk_zret C hH (Or.inr rfl) dX1_isSlow_17
set_option maxRecDepth 100000 in
theorem c_X1_isSlow {l : Launch} {G : bk_G} {N : Nat} {Y : bk_Lay} {V : bk_Val} {a0 : Nat} {x1 : Int32} {out : Int32} (hq : q_X1_isSlow N Y V a0 x1 = some out) : Met l yX1_isSlow (bk_ws yX1_isSlow cX1_isSlow 2 (some FieldType.boolean)) rm_X1_isSlow (bk_Pc G [.ref a0, .int x1] Y V) (bk_Q G (some (.int out)) Y V) 0 0 (bk_A G) :=
  bk_met (by decide) (Nat.le_of_ble_eq_true rfl) (fun p e s m args below meth c ls C hnm hH hl => w_X1_isSlow C _ _ _ _ _ _ _ hl hH hq)

def rm_X4_asks : Room := bk_rm 0 0 0 0
set_option maxRecDepth 100000 in
set_option maxHeartbeats 4000000 in
theorem w_X4_asks_2 (C : bk_C G p s m args meth c cX4_asks RX4 3 (some FieldType.boolean)) : ∀ (n : Nat), ∀ (V : bk_Val) (a0 : Nat) (x1 : Int32) (x2 : Int32) (H : Heap) (locs : List Loc) (ls : Array Slot) (out : Int32), lv_has ls 3 [(0, .ref a0), (1, .int x1), (2, .int x2)] → bk_H G Y V s.heap H locs → q_X4_asks_2 N Y n V a0 x1 x2 = some out → W p l e rm_X4_asks s m args below meth c H locs 0 0 (MQ below (bk_Q G (some (.int out)) Y V) args s 0 0 (bk_A G)) (F0 m 2 ls []) := by
  have hx := C.1
  have hb := C.2.1
  intro n
  induction n with
  | zero =>
    intro V a0 x1 x2 H locs ls out hl hH hq
    exact nomatch (show (none : Option (Int32)) = some out from hq)
  | succ n ih =>
    intro V a0 x1 x2 H locs ls out hl hH hq
    unfold q_X4_asks_2 at hq
    refine lv_iload_n hx hb dX4_asks_2 rfl (lv_at hl 2 rfl) ?_
    refine lv_aload_n hx hb dX4_asks_3 rfl (lv_at hl 0 rfl) ?_
    obtain ⟨hs_1, hq⟩ := bk_ck_some hq
    refine bk_geti C hH fl_RX4_18 hs_1 rfl dX4_asks_4 ?_
    refine lv_icmp_ge (tgt := 32) hx hb dX4_asks_7 (by decide) (fun hc_7 => ?_) (fun hc_7 => ?_)
    · rw [if_pos hc_7] at hq
      refine lv_iconst (v := 0) hx hb dX4_asks_32 (by decide) ?_
      cases hq
      exact bk_zret C hH (Or.inl rfl) dX4_asks_33
    · rw [if_neg hc_7] at hq
      refine lv_aload_n hx hb dX4_asks_10 rfl (lv_at hl 0 rfl) ?_
      obtain ⟨b_2, hr_3, hq⟩ := bk_bd_some hq
      refine bk_getr C hH fl_RX4_9 hs_1 rfl hr_3 dX4_asks_11 ?_
      refine lv_iload_n hx hb dX4_asks_14 rfl (lv_at hl 2 rfl) ?_
      obtain ⟨ha_4, hq⟩ := bk_ck_some hq
      obtain ⟨hi_5, hq⟩ := bk_ck_some hq
      refine bk_iald C hH (bk_arr ha_4) (bk_in_vp hi_5) dX4_asks_15 ?_
      refine lv_sipush (v := 10000) hx hb dX4_asks_16 (by decide) ?_
      refine lv_iload_n hx hb dX4_asks_19 rfl (lv_at hl 1 rfl) ?_
      refine lv_iadd hx hb dX4_asks_20 ?_
      refine lv_icmp_ne (tgt := 26) hx hb dX4_asks_21 (by decide) (fun hc_6 => ?_) (fun hc_6 => ?_)
      · rw [if_neg hc_6] at hq
        refine lv_iinc (v := (x2 + 1)) (lv' := [(2, .int (x2 + 1)), (0, .ref a0), (1, .int x1)]) hx hb dX4_asks_26 hl (k := 2) rfl rfl (by decide) rfl (fun ls hl => ?_)
        refine lv_goto (tgt := 2) hx hb dX4_asks_29 (by decide) ?_
        exact ih _ _ _ _ _ _ _ _ (lv_sub hl [1, 2, 0] rfl) hH hq
      · rw [if_pos hc_6] at hq
        refine lv_iconst (v := 1) hx hb dX4_asks_24 (by decide) ?_
        cases hq
        exact bk_zret C hH (Or.inr rfl) dX4_asks_25

set_option maxRecDepth 100000 in
set_option maxHeartbeats 4000000 in
theorem w_X4_asks (C : bk_C G p s m args meth c cX4_asks RX4 3 (some FieldType.boolean)) : ∀ (V : bk_Val) (a0 : Nat) (x1 : Int32) (H : Heap) (locs : List Loc) (ls : Array Slot) (out : Int32), lv_has ls 3 [(0, .ref a0), (1, .int x1)] → bk_H G Y V s.heap H locs → q_X4_asks N Y V a0 x1 = some out → W p l e rm_X4_asks s m args below meth c H locs 0 0 (MQ below (bk_Q G (some (.int out)) Y V) args s 0 0 (bk_A G)) (F0 m 0 ls []) := by
  have hx := C.1
  have hb := C.2.1
  intro V a0 x1 H locs ls out hl hH hq
  unfold q_X4_asks at hq
  refine lv_iconst (v := 0) hx hb dX4_asks_0 (by decide) ?_
  refine lv_istore_n (lv' := [(2, .int 0), (0, .ref a0), (1, .int x1)]) hx hb dX4_asks_1 rfl hl (by decide) rfl (fun ls hl => ?_)
  exact w_X4_asks_2 C _ _ _ _ _ _ _ _ _ (lv_sub hl [1, 2, 0] rfl) hH hq
set_option maxRecDepth 100000 in
theorem c_X4_asks {l : Launch} {G : bk_G} {N : Nat} {Y : bk_Lay} {V : bk_Val} {a0 : Nat} {x1 : Int32} {out : Int32} (hq : q_X4_asks N Y V a0 x1 = some out) : Met l yX4_asks (bk_ws yX4_asks cX4_asks 3 (some FieldType.boolean)) rm_X4_asks (bk_Pc G [.ref a0, .int x1] Y V) (bk_Q G (some (.int out)) Y V) 0 0 (bk_A G) :=
  bk_met (by decide) (Nat.le_of_ble_eq_true rfl) (fun p e s m args below meth c ls C hnm hH hl => w_X4_asks C _ _ _ _ _ _ _ hl hH hq)

def rm_X5_leaksAlikeEachMinute : Room := bk_rm 1 0 0 22
set_option maxRecDepth 100000 in
set_option maxHeartbeats 4000000 in
theorem w_X5_leaksAlikeEachMinute (C : bk_C G p s m args meth c cX5_leaksAlikeEachMinute RX5 2 (some FieldType.boolean)) : ∀ (V : bk_Val) (a0 : Nat) (x1 : Int32) (H : Heap) (locs : List Loc) (ls : Array Slot) (out : Int32), lv_has ls 2 [(0, .ref a0), (1, .int x1)] → bk_H G Y V s.heap H locs → q_X5_leaksAlikeEachMinute N Y V a0 x1 = some out → W p l e rm_X5_leaksAlikeEachMinute s m args below meth c H locs 0 0 (MQ below (bk_Q G (some (.int out)) Y V) args s 0 0 (bk_A G)) (F0 m 0 ls []) := by
  have hx := C.1
  have hb := C.2.1
  intro V a0 x1 H locs ls out hl hH hq
  unfold q_X5_leaksAlikeEachMinute at hq
  refine lv_iload_n hx hb dX5_leaksAlikeEachMinute_0 rfl (lv_at hl 1 rfl) ?_
  refine lv_if_eq (tgt := 15) hx hb dX5_leaksAlikeEachMinute_1 (by decide) (fun hc_8 => ?_) (fun hc_8 => ?_)
  · rw [if_pos hc_8] at hq
    refine lv_iconst (v := 1) hx hb dX5_leaksAlikeEachMinute_15 (by decide) ?_
    refine lv_goto (tgt := 20) hx hb dX5_leaksAlikeEachMinute_16 (by decide) ?_
    cases hq
    exact bk_zret C hH (Or.inr rfl) dX5_leaksAlikeEachMinute_20
  · rw [if_neg hc_8] at hq
    refine lv_aload_n hx hb dX5_leaksAlikeEachMinute_4 rfl (lv_at hl 0 rfl) ?_
    obtain ⟨hs_1, hq⟩ := bk_ck_some hq
    obtain ⟨b_2, hr_3, hq⟩ := bk_bd_some hq
    refine bk_getr C hH fl_RX5_42 hs_1 rfl hr_3 dX5_leaksAlikeEachMinute_5 ?_
    refine lv_iconst (v := 3) hx hb dX5_leaksAlikeEachMinute_8 (by decide) ?_
    obtain ⟨hs_6, hq⟩ := bk_ck_some hq
    obtain ⟨r_5, hr_4, hq⟩ := bk_bd_some hq
    refine bk_callV (rest := []) (As := [.int 3]) (ro := (some (.int r_5))) (Y1 := Y) (V1 := V) C hH hl.1 (c_X4_asks hr_4) mc_X4_asks mv_X4_asks lk_RX5_113 hs_6 rfl rfl ⟨rfl, rfl⟩ ⟨by decide, by decide⟩ rfl (Nat.le_of_ble_eq_true rfl) dX5_leaksAlikeEachMinute_9 ⟨by decide, by decide⟩ (fun H locs hH => ?_)
    refine lv_if_ne (tgt := 19) hx hb dX5_leaksAlikeEachMinute_12 (by decide) (fun hc_7 => ?_) (fun hc_7 => ?_)
    · rw [if_neg hc_7] at hq
      refine lv_iconst (v := 0) hx hb dX5_leaksAlikeEachMinute_19 (by decide) ?_
      cases hq
      exact bk_zret C hH (Or.inl rfl) dX5_leaksAlikeEachMinute_20
    · rw [if_pos hc_7] at hq
      refine lv_iconst (v := 1) hx hb dX5_leaksAlikeEachMinute_15 (by decide) ?_
      refine lv_goto (tgt := 20) hx hb dX5_leaksAlikeEachMinute_16 (by decide) ?_
      cases hq
      exact bk_zret C hH (Or.inr rfl) dX5_leaksAlikeEachMinute_20
set_option maxRecDepth 100000 in
theorem c_X5_leaksAlikeEachMinute {l : Launch} {G : bk_G} {N : Nat} {Y : bk_Lay} {V : bk_Val} {a0 : Nat} {x1 : Int32} {out : Int32} (hq : q_X5_leaksAlikeEachMinute N Y V a0 x1 = some out) : Met l yX5_leaksAlikeEachMinute (bk_ws yX5_leaksAlikeEachMinute cX5_leaksAlikeEachMinute 2 (some FieldType.boolean)) rm_X5_leaksAlikeEachMinute (bk_Pc G [.ref a0, .int x1] Y V) (bk_Q G (some (.int out)) Y V) 0 0 (bk_A G) :=
  bk_met (by decide) (Nat.le_of_ble_eq_true rfl) (fun p e s m args below meth c ls C hnm hH hl => w_X5_leaksAlikeEachMinute C _ _ _ _ _ _ _ hl hH hq)

def rm_X4_isTold : Room := bk_rm 0 0 0 0
set_option maxRecDepth 100000 in
set_option maxHeartbeats 4000000 in
theorem w_X4_isTold (C : bk_C G p s m args meth c cX4_isTold RX4 1 (some FieldType.boolean)) : ∀ (V : bk_Val) (a0 : Nat) (H : Heap) (locs : List Loc) (ls : Array Slot) (out : Int32), lv_has ls 1 [(0, .ref a0)] → bk_H G Y V s.heap H locs → q_X4_isTold N Y V a0 = some out → W p l e rm_X4_isTold s m args below meth c H locs 0 0 (MQ below (bk_Q G (some (.int out)) Y V) args s 0 0 (bk_A G)) (F0 m 0 ls []) := by
  have hx := C.1
  have hb := C.2.1
  intro V a0 H locs ls out hl hH hq
  unfold q_X4_isTold at hq
  refine lv_aload_n hx hb dX4_isTold_0 rfl (lv_at hl 0 rfl) ?_
  obtain ⟨hs_1, hq⟩ := bk_ck_some hq
  refine bk_geti C hH fl_RX4_18 hs_1 rfl dX4_isTold_1 ?_
  refine lv_if_le (tgt := 11) hx hb dX4_isTold_4 (by decide) (fun hc_2 => ?_) (fun hc_2 => ?_)
  · rw [if_pos hc_2] at hq
    refine lv_iconst (v := 0) hx hb dX4_isTold_11 (by decide) ?_
    cases hq
    exact bk_zret C hH (Or.inl rfl) dX4_isTold_12
  · rw [if_neg hc_2] at hq
    refine lv_iconst (v := 1) hx hb dX4_isTold_7 (by decide) ?_
    refine lv_goto (tgt := 12) hx hb dX4_isTold_8 (by decide) ?_
    cases hq
    exact bk_zret C hH (Or.inr rfl) dX4_isTold_12
set_option maxRecDepth 100000 in
theorem c_X4_isTold {l : Launch} {G : bk_G} {N : Nat} {Y : bk_Lay} {V : bk_Val} {a0 : Nat} {out : Int32} (hq : q_X4_isTold N Y V a0 = some out) : Met l yX4_isTold (bk_ws yX4_isTold cX4_isTold 1 (some FieldType.boolean)) rm_X4_isTold (bk_Pc G [.ref a0] Y V) (bk_Q G (some (.int out)) Y V) 0 0 (bk_A G) :=
  bk_met (by decide) (Nat.le_of_ble_eq_true rfl) (fun p e s m args below meth c ls C hnm hH hl => w_X4_isTold C _ _ _ _ _ _ hl hH hq)

def rm_X4_numberOf : Room := bk_rm 0 0 0 0
set_option maxRecDepth 100000 in
set_option maxHeartbeats 4000000 in
theorem w_X4_numberOf (C : bk_C G p s m args meth c cX4_numberOf RX4 3 (some FieldType.int)) : ∀ (V : bk_Val) (x0 : Int32) (a1 : Nat) (H : Heap) (locs : List Loc) (ls : Array Slot) (out : Int32), lv_has ls 3 [(0, .int x0), (1, .ref a1)] → bk_H G Y V s.heap H locs → q_X4_numberOf N Y V x0 a1 = some out → W p l e rm_X4_numberOf s m args below meth c H locs 0 0 (MQ below (bk_Q G (some (.int out)) Y V) args s 0 0 (bk_A G)) (F0 m 0 ls []) := by
  have hx := C.1
  have hb := C.2.1
  intro V x0 a1 H locs ls out hl hH hq
  unfold q_X4_numberOf at hq
  refine lv_iload_n hx hb dX4_numberOf_0 rfl (lv_at hl 0 rfl) ?_
  refine lv_sipush (v := 10000) hx hb dX4_numberOf_1 (by decide) ?_
  refine lv_icmp_ge (tgt := 9) hx hb dX4_numberOf_4 (by decide) (fun hc_4 => ?_) (fun hc_4 => ?_)
  · rw [if_pos hc_4] at hq
    refine lv_iload_n hx hb dX4_numberOf_9 rfl (lv_at hl 0 rfl) ?_
    refine lv_sipush (v := 10000) hx hb dX4_numberOf_10 (by decide) ?_
    refine lv_isub hx hb dX4_numberOf_13 ?_
    refine lv_istore_n (lv' := [(2, .int (x0 - 10000)), (0, .int x0), (1, .ref a1)]) hx hb dX4_numberOf_14 rfl hl (by decide) rfl (fun ls hl => ?_)
    refine lv_iload_n hx hb dX4_numberOf_15 rfl (lv_at hl 0 rfl) ?_
    refine lv_aload_n hx hb dX4_numberOf_16 rfl (lv_at hl 2 rfl) ?_
    obtain ⟨ha_1, hq⟩ := bk_ck_some hq
    refine bk_alen C hH (bk_arr ha_1) (by decide) dX4_numberOf_17 ?_
    refine lv_icmp_ge (tgt := 27) hx hb dX4_numberOf_18 (by decide) (fun hc_3 => ?_) (fun hc_3 => ?_)
    · rw [if_pos hc_3] at hq
      refine lv_iconst (v := 0) hx hb dX4_numberOf_27 (by decide) ?_
      cases hq
      exact bk_iret C hH dX4_numberOf_28
    · rw [if_neg hc_3] at hq
      refine lv_aload_n hx hb dX4_numberOf_21 rfl (lv_at hl 2 rfl) ?_
      refine lv_iload_n hx hb dX4_numberOf_22 rfl (lv_at hl 0 rfl) ?_
      obtain ⟨hi_2, hq⟩ := bk_ck_some hq
      refine bk_iald C hH (bk_arr ha_1) (bk_in_vp hi_2) dX4_numberOf_23 ?_
      refine lv_goto (tgt := 28) hx hb dX4_numberOf_24 (by decide) ?_
      cases hq
      exact bk_iret C hH dX4_numberOf_28
  · rw [if_neg hc_4] at hq
    refine lv_iload_n hx hb dX4_numberOf_7 rfl (lv_at hl 0 rfl) ?_
    cases hq
    exact bk_iret C hH dX4_numberOf_8
set_option maxRecDepth 100000 in
theorem c_X4_numberOf {l : Launch} {G : bk_G} {N : Nat} {Y : bk_Lay} {V : bk_Val} {x0 : Int32} {a1 : Nat} {out : Int32} (hq : q_X4_numberOf N Y V x0 a1 = some out) : Met l yX4_numberOf (bk_ws yX4_numberOf cX4_numberOf 3 (some FieldType.int)) rm_X4_numberOf (bk_Pc G [.int x0, .ref a1] Y V) (bk_Q G (some (.int out)) Y V) 0 0 (bk_A G) :=
  bk_met (by decide) (Nat.le_of_ble_eq_true rfl) (fun p e s m args below meth c ls C hnm hH hl => w_X4_numberOf C _ _ _ _ _ _ _ hl hH hq)

def rm_X4_oneIf : Room := bk_rm 0 0 0 0
set_option maxRecDepth 100000 in
set_option maxHeartbeats 4000000 in
theorem w_X4_oneIf (C : bk_C G p s m args meth c cX4_oneIf RX4 1 (some FieldType.int)) : ∀ (V : bk_Val) (x0 : Int32) (H : Heap) (locs : List Loc) (ls : Array Slot) (out : Int32), lv_has ls 1 [(0, .int x0)] → bk_H G Y V s.heap H locs → q_X4_oneIf N Y V x0 = some out → W p l e rm_X4_oneIf s m args below meth c H locs 0 0 (MQ below (bk_Q G (some (.int out)) Y V) args s 0 0 (bk_A G)) (F0 m 0 ls []) := by
  have hx := C.1
  have hb := C.2.1
  intro V x0 H locs ls out hl hH hq
  unfold q_X4_oneIf at hq
  refine lv_iload_n hx hb dX4_oneIf_0 rfl (lv_at hl 0 rfl) ?_
  refine lv_if_eq (tgt := 8) hx hb dX4_oneIf_1 (by decide) (fun hc_1 => ?_) (fun hc_1 => ?_)
  · rw [if_pos hc_1] at hq
    refine lv_iconst (v := 0) hx hb dX4_oneIf_8 (by decide) ?_
    cases hq
    exact bk_iret C hH dX4_oneIf_9
  · rw [if_neg hc_1] at hq
    refine lv_iconst (v := 1) hx hb dX4_oneIf_4 (by decide) ?_
    refine lv_goto (tgt := 9) hx hb dX4_oneIf_5 (by decide) ?_
    cases hq
    exact bk_iret C hH dX4_oneIf_9
set_option maxRecDepth 100000 in
theorem c_X4_oneIf {l : Launch} {G : bk_G} {N : Nat} {Y : bk_Lay} {V : bk_Val} {x0 : Int32} {out : Int32} (hq : q_X4_oneIf N Y V x0 = some out) : Met l yX4_oneIf (bk_ws yX4_oneIf cX4_oneIf 1 (some FieldType.int)) rm_X4_oneIf (bk_Pc G [.int x0] Y V) (bk_Q G (some (.int out)) Y V) 0 0 (bk_A G) :=
  bk_met (by decide) (Nat.le_of_ble_eq_true rfl) (fun p e s m args below meth c ls C hnm hH hl => w_X4_oneIf C _ _ _ _ _ _ hl hH hq)

def rm_X4_joined : Room := bk_rm 1 0 0 20
set_option maxRecDepth 100000 in
set_option maxHeartbeats 4000000 in
theorem w_X4_joined_61 (C : bk_C G p s m args meth c cX4_joined RX4 3 (some FieldType.int)) : ∀ (V : bk_Val) (sx0 : Int32) (H : Heap) (locs : List Loc) (ls : Array Slot) (out : Int32), lv_has ls 3 [] → bk_H G Y V s.heap H locs → q_X4_joined_61 N Y V sx0 = some out → W p l e rm_X4_joined s m args below meth c H locs 0 0 (MQ below (bk_Q G (some (.int out)) Y V) args s 0 0 (bk_A G)) (F0 m 61 ls [.int sx0]) := by
  have hx := C.1
  have hb := C.2.1
  intro V sx0 H locs ls out hl hH hq
  unfold q_X4_joined_61 at hq
  obtain ⟨r_2, hr_1, hq⟩ := bk_bd_some hq
  refine bk_callS (rest := []) (As := [.int sx0]) (ro := (some (.int r_2))) (Y1 := Y) (V1 := V) C hH hl.1 (c_X4_oneIf hr_1) mc_X4_oneIf st_X4_oneIf lk_RX4_30 rfl ⟨rfl, rfl⟩ ⟨by decide, by decide⟩ rfl (Nat.le_of_ble_eq_true rfl) dX4_joined_61 ⟨by decide, by decide⟩ (fun H locs hH => ?_)
  cases hq
  exact bk_iret C hH dX4_joined_64

set_option maxRecDepth 100000 in
set_option maxHeartbeats 4000000 in
theorem w_X4_joined_56 (C : bk_C G p s m args meth c cX4_joined RX4 3 (some FieldType.int)) : ∀ (V : bk_Val) (H : Heap) (locs : List Loc) (ls : Array Slot) (out : Int32), lv_has ls 3 [] → bk_H G Y V s.heap H locs → q_X4_joined_56 N Y V = some out → W p l e rm_X4_joined s m args below meth c H locs 0 0 (MQ below (bk_Q G (some (.int out)) Y V) args s 0 0 (bk_A G)) (F0 m 56 ls []) := by
  have hx := C.1
  have hb := C.2.1
  intro V H locs ls out hl hH hq
  unfold q_X4_joined_56 at hq
  refine lv_iconst (v := 1) hx hb dX4_joined_56 (by decide) ?_
  refine lv_goto (tgt := 61) hx hb dX4_joined_57 (by decide) ?_
  exact w_X4_joined_61 C _ _ _ _ _ _ (lv_sub hl [] rfl) hH hq

set_option maxRecDepth 100000 in
set_option maxHeartbeats 4000000 in
theorem w_X4_joined_78 (C : bk_C G p s m args meth c cX4_joined RX4 3 (some FieldType.int)) : ∀ (V : bk_Val) (sx0 : Int32) (H : Heap) (locs : List Loc) (ls : Array Slot) (out : Int32), lv_has ls 3 [] → bk_H G Y V s.heap H locs → q_X4_joined_78 N Y V sx0 = some out → W p l e rm_X4_joined s m args below meth c H locs 0 0 (MQ below (bk_Q G (some (.int out)) Y V) args s 0 0 (bk_A G)) (F0 m 78 ls [.int sx0]) := by
  have hx := C.1
  have hb := C.2.1
  intro V sx0 H locs ls out hl hH hq
  unfold q_X4_joined_78 at hq
  obtain ⟨r_4, hr_3, hq⟩ := bk_bd_some hq
  refine bk_callS (rest := []) (As := [.int sx0]) (ro := (some (.int r_4))) (Y1 := Y) (V1 := V) C hH hl.1 (c_X4_oneIf hr_3) mc_X4_oneIf st_X4_oneIf lk_RX4_30 rfl ⟨rfl, rfl⟩ ⟨by decide, by decide⟩ rfl (Nat.le_of_ble_eq_true rfl) dX4_joined_78 ⟨by decide, by decide⟩ (fun H locs hH => ?_)
  cases hq
  exact bk_iret C hH dX4_joined_81

set_option maxRecDepth 100000 in
set_option maxHeartbeats 4000000 in
theorem w_X4_joined_77 (C : bk_C G p s m args meth c cX4_joined RX4 3 (some FieldType.int)) : ∀ (V : bk_Val) (H : Heap) (locs : List Loc) (ls : Array Slot) (out : Int32), lv_has ls 3 [] → bk_H G Y V s.heap H locs → q_X4_joined_77 N Y V = some out → W p l e rm_X4_joined s m args below meth c H locs 0 0 (MQ below (bk_Q G (some (.int out)) Y V) args s 0 0 (bk_A G)) (F0 m 77 ls []) := by
  have hx := C.1
  have hb := C.2.1
  intro V H locs ls out hl hH hq
  unfold q_X4_joined_77 at hq
  refine lv_iconst (v := 0) hx hb dX4_joined_77 (by decide) ?_
  exact w_X4_joined_78 C _ _ _ _ _ _ (lv_sub hl [] rfl) hH hq

set_option maxRecDepth 100000 in
set_option maxHeartbeats 4000000 in
theorem w_X4_joined_92 (C : bk_C G p s m args meth c cX4_joined RX4 3 (some FieldType.int)) : ∀ (V : bk_Val) (sx0 : Int32) (H : Heap) (locs : List Loc) (ls : Array Slot) (out : Int32), lv_has ls 3 [] → bk_H G Y V s.heap H locs → q_X4_joined_92 N Y V sx0 = some out → W p l e rm_X4_joined s m args below meth c H locs 0 0 (MQ below (bk_Q G (some (.int out)) Y V) args s 0 0 (bk_A G)) (F0 m 92 ls [.int sx0]) := by
  have hx := C.1
  have hb := C.2.1
  intro V sx0 H locs ls out hl hH hq
  unfold q_X4_joined_92 at hq
  obtain ⟨r_6, hr_5, hq⟩ := bk_bd_some hq
  refine bk_callS (rest := []) (As := [.int sx0]) (ro := (some (.int r_6))) (Y1 := Y) (V1 := V) C hH hl.1 (c_X4_oneIf hr_5) mc_X4_oneIf st_X4_oneIf lk_RX4_30 rfl ⟨rfl, rfl⟩ ⟨by decide, by decide⟩ rfl (Nat.le_of_ble_eq_true rfl) dX4_joined_92 ⟨by decide, by decide⟩ (fun H locs hH => ?_)
  cases hq
  exact bk_iret C hH dX4_joined_95

set_option maxRecDepth 100000 in
set_option maxHeartbeats 4000000 in
theorem w_X4_joined_106 (C : bk_C G p s m args meth c cX4_joined RX4 3 (some FieldType.int)) : ∀ (V : bk_Val) (sx0 : Int32) (H : Heap) (locs : List Loc) (ls : Array Slot) (out : Int32), lv_has ls 3 [] → bk_H G Y V s.heap H locs → q_X4_joined_106 N Y V sx0 = some out → W p l e rm_X4_joined s m args below meth c H locs 0 0 (MQ below (bk_Q G (some (.int out)) Y V) args s 0 0 (bk_A G)) (F0 m 106 ls [.int sx0]) := by
  have hx := C.1
  have hb := C.2.1
  intro V sx0 H locs ls out hl hH hq
  unfold q_X4_joined_106 at hq
  obtain ⟨r_8, hr_7, hq⟩ := bk_bd_some hq
  refine bk_callS (rest := []) (As := [.int sx0]) (ro := (some (.int r_8))) (Y1 := Y) (V1 := V) C hH hl.1 (c_X4_oneIf hr_7) mc_X4_oneIf st_X4_oneIf lk_RX4_30 rfl ⟨rfl, rfl⟩ ⟨by decide, by decide⟩ rfl (Nat.le_of_ble_eq_true rfl) dX4_joined_106 ⟨by decide, by decide⟩ (fun H locs hH => ?_)
  cases hq
  exact bk_iret C hH dX4_joined_109

set_option maxRecDepth 100000 in
set_option maxHeartbeats 4000000 in
theorem w_X4_joined (C : bk_C G p s m args meth c cX4_joined RX4 3 (some FieldType.int)) : ∀ (V : bk_Val) (x0 : Int32) (x1 : Int32) (x2 : Int32) (H : Heap) (locs : List Loc) (ls : Array Slot) (out : Int32), lv_has ls 3 [(0, .int x0), (1, .int x1), (2, .int x2)] → bk_H G Y V s.heap H locs → q_X4_joined N Y V x0 x1 x2 = some out → W p l e rm_X4_joined s m args below meth c H locs 0 0 (MQ below (bk_Q G (some (.int out)) Y V) args s 0 0 (bk_A G)) (F0 m 0 ls []) := by
  have hx := C.1
  have hb := C.2.1
  intro V x0 x1 x2 H locs ls out hl hH hq
  unfold q_X4_joined at hq
  refine lv_iload_n hx hb dX4_joined_0 rfl (lv_at hl 0 rfl) ?_
  refine lv_topi (fun sw_9 e_10 => ?_)
  have hq := bk_let_eq e_10 hq
  by_cases hc_11 : sw_9 = (-8)
  · rw [if_pos hc_11] at hq
    refine lv_tableIn (off := 117) (tgt := 118) hx hb dX4_joined_1 (by rw [hc_11]; decide) (by rw [hc_11]; decide) (by rw [hc_11]; decide) (by decide) ?_
    refine lv_iload_n hx hb dX4_joined_118 rfl (lv_at hl 1 rfl) ?_
    refine lv_iload_n hx hb dX4_joined_119 rfl (lv_at hl 2 rfl) ?_
    refine lv_imul hx hb dX4_joined_120 ?_
    cases hq
    exact bk_iret C hH dX4_joined_121
  · rw [if_neg hc_11] at hq
    by_cases hc_12 : sw_9 = (-7)
    · rw [if_pos hc_12] at hq
      refine lv_tableIn (off := 113) (tgt := 114) hx hb dX4_joined_1 (by rw [hc_12]; decide) (by rw [hc_12]; decide) (by rw [hc_12]; decide) (by decide) ?_
      refine lv_iload_n hx hb dX4_joined_114 rfl (lv_at hl 1 rfl) ?_
      refine lv_iload_n hx hb dX4_joined_115 rfl (lv_at hl 2 rfl) ?_
      refine lv_isub hx hb dX4_joined_116 ?_
      cases hq
      exact bk_iret C hH dX4_joined_117
    · rw [if_neg hc_12] at hq
      by_cases hc_13 : sw_9 = (-6)
      · rw [if_pos hc_13] at hq
        refine lv_tableIn (off := 109) (tgt := 110) hx hb dX4_joined_1 (by rw [hc_13]; decide) (by rw [hc_13]; decide) (by rw [hc_13]; decide) (by decide) ?_
        refine lv_iload_n hx hb dX4_joined_110 rfl (lv_at hl 1 rfl) ?_
        refine lv_iload_n hx hb dX4_joined_111 rfl (lv_at hl 2 rfl) ?_
        refine lv_iadd hx hb dX4_joined_112 ?_
        cases hq
        exact bk_iret C hH dX4_joined_113
      · rw [if_neg hc_13] at hq
        by_cases hc_15 : sw_9 = (-5)
        · rw [if_pos hc_15] at hq
          refine lv_tableIn (off := 95) (tgt := 96) hx hb dX4_joined_1 (by rw [hc_15]; decide) (by rw [hc_15]; decide) (by rw [hc_15]; decide) (by decide) ?_
          refine lv_iload_n hx hb dX4_joined_96 rfl (lv_at hl 1 rfl) ?_
          refine lv_iload_n hx hb dX4_joined_97 rfl (lv_at hl 2 rfl) ?_
          refine lv_icmp_ne (tgt := 105) hx hb dX4_joined_98 (by decide) (fun hc_14 => ?_) (fun hc_14 => ?_)
          · rw [if_neg hc_14] at hq
            refine lv_iconst (v := 0) hx hb dX4_joined_105 (by decide) ?_
            exact w_X4_joined_106 C _ _ _ _ _ _ (lv_sub hl [] rfl) hH hq
          · rw [if_pos hc_14] at hq
            refine lv_iconst (v := 1) hx hb dX4_joined_101 (by decide) ?_
            refine lv_goto (tgt := 106) hx hb dX4_joined_102 (by decide) ?_
            exact w_X4_joined_106 C _ _ _ _ _ _ (lv_sub hl [] rfl) hH hq
        · rw [if_neg hc_15] at hq
          by_cases hc_17 : sw_9 = (-4)
          · rw [if_pos hc_17] at hq
            refine lv_tableIn (off := 81) (tgt := 82) hx hb dX4_joined_1 (by rw [hc_17]; decide) (by rw [hc_17]; decide) (by rw [hc_17]; decide) (by decide) ?_
            refine lv_iload_n hx hb dX4_joined_82 rfl (lv_at hl 1 rfl) ?_
            refine lv_iload_n hx hb dX4_joined_83 rfl (lv_at hl 2 rfl) ?_
            refine lv_icmp_ge (tgt := 91) hx hb dX4_joined_84 (by decide) (fun hc_16 => ?_) (fun hc_16 => ?_)
            · rw [if_pos hc_16] at hq
              refine lv_iconst (v := 0) hx hb dX4_joined_91 (by decide) ?_
              exact w_X4_joined_92 C _ _ _ _ _ _ (lv_sub hl [] rfl) hH hq
            · rw [if_neg hc_16] at hq
              refine lv_iconst (v := 1) hx hb dX4_joined_87 (by decide) ?_
              refine lv_goto (tgt := 92) hx hb dX4_joined_88 (by decide) ?_
              exact w_X4_joined_92 C _ _ _ _ _ _ (lv_sub hl [] rfl) hH hq
          · rw [if_neg hc_17] at hq
            by_cases hc_20 : sw_9 = (-2)
            · rw [if_pos hc_20] at hq
              refine lv_tableIn (off := 64) (tgt := 65) hx hb dX4_joined_1 (by rw [hc_20]; decide) (by rw [hc_20]; decide) (by rw [hc_20]; decide) (by decide) ?_
              refine lv_iload_n hx hb dX4_joined_65 rfl (lv_at hl 1 rfl) ?_
              refine lv_if_eq (tgt := 77) hx hb dX4_joined_66 (by decide) (fun hc_19 => ?_) (fun hc_19 => ?_)
              · rw [if_pos hc_19] at hq
                exact w_X4_joined_77 C _ _ _ _ _ (lv_sub hl [] rfl) hH hq
              · rw [if_neg hc_19] at hq
                refine lv_iload_n hx hb dX4_joined_69 rfl (lv_at hl 2 rfl) ?_
                refine lv_if_eq (tgt := 77) hx hb dX4_joined_70 (by decide) (fun hc_18 => ?_) (fun hc_18 => ?_)
                · rw [if_pos hc_18] at hq
                  exact w_X4_joined_77 C _ _ _ _ _ (lv_sub hl [] rfl) hH hq
                · rw [if_neg hc_18] at hq
                  refine lv_iconst (v := 1) hx hb dX4_joined_73 (by decide) ?_
                  refine lv_goto (tgt := 78) hx hb dX4_joined_74 (by decide) ?_
                  exact w_X4_joined_78 C _ _ _ _ _ _ (lv_sub hl [] rfl) hH hq
            · rw [if_neg hc_20] at hq
              by_cases hc_23 : sw_9 = (-1)
              · rw [if_pos hc_23] at hq
                refine lv_tableIn (off := 47) (tgt := 48) hx hb dX4_joined_1 (by rw [hc_23]; decide) (by rw [hc_23]; decide) (by rw [hc_23]; decide) (by decide) ?_
                refine lv_iload_n hx hb dX4_joined_48 rfl (lv_at hl 1 rfl) ?_
                refine lv_if_ne (tgt := 56) hx hb dX4_joined_49 (by decide) (fun hc_22 => ?_) (fun hc_22 => ?_)
                · rw [if_neg hc_22] at hq
                  exact w_X4_joined_56 C _ _ _ _ _ (lv_sub hl [] rfl) hH hq
                · rw [if_pos hc_22] at hq
                  refine lv_iload_n hx hb dX4_joined_52 rfl (lv_at hl 2 rfl) ?_
                  refine lv_if_eq (tgt := 60) hx hb dX4_joined_53 (by decide) (fun hc_21 => ?_) (fun hc_21 => ?_)
                  · rw [if_pos hc_21] at hq
                    refine lv_iconst (v := 0) hx hb dX4_joined_60 (by decide) ?_
                    exact w_X4_joined_61 C _ _ _ _ _ _ (lv_sub hl [] rfl) hH hq
                  · rw [if_neg hc_21] at hq
                    exact w_X4_joined_56 C _ _ _ _ _ (lv_sub hl [] rfl) hH hq
              · rw [if_neg hc_23] at hq
                by_cases ho : sw_9.toInt < -8 ∨ -1 < sw_9.toInt
                · refine lv_tableOut (tgt := 122) hx hb dX4_joined_1 ho (by decide) ?_
                  refine lv_iload_n hx hb dX4_joined_122 rfl (lv_at hl 2 rfl) ?_
                  refine lv_if_ne (tgt := 130) hx hb dX4_joined_123 (by decide) (fun hc_25 => ?_) (fun hc_25 => ?_)
                  · rw [if_neg hc_25] at hq
                    refine lv_iload_n hx hb dX4_joined_130 rfl (lv_at hl 1 rfl) ?_
                    refine lv_iload_n hx hb dX4_joined_131 rfl (lv_at hl 2 rfl) ?_
                    obtain ⟨hd_24, hq⟩ := bk_ck_some hq
                    refine lv_idiv hx hb dX4_joined_132 hd_24 ?_
                    cases hq
                    exact bk_iret C hH dX4_joined_133
                  · rw [if_pos hc_25] at hq
                    refine lv_iconst (v := 0) hx hb dX4_joined_126 (by decide) ?_
                    refine lv_goto (tgt := 133) hx hb dX4_joined_127 (by decide) ?_
                    cases hq
                    exact bk_iret C hH dX4_joined_133
                · have hg : sw_9.toInt = -3 := by have n0 := bk_neI (k := -8) hc_11 (by decide) (by decide); have n1 := bk_neI (k := -7) hc_12 (by decide) (by decide); have n2 := bk_neI (k := -6) hc_13 (by decide) (by decide); have n3 := bk_neI (k := -5) hc_15 (by decide) (by decide); have n4 := bk_neI (k := -4) hc_17 (by decide) (by decide); have n5 := bk_neI (k := -2) hc_20 (by decide) (by decide); have n6 := bk_neI (k := -1) hc_23 (by decide) (by decide); omega
                  refine lv_tableIn (off := 121) (tgt := 122) hx hb dX4_joined_1 (fun h => ho (Or.inl h)) (fun h => ho (Or.inr h)) (by rcases hg with hg <;> rw [hg] <;> decide) (by decide) ?_
                  refine lv_iload_n hx hb dX4_joined_122 rfl (lv_at hl 2 rfl) ?_
                  refine lv_if_ne (tgt := 130) hx hb dX4_joined_123 (by decide) (fun hc_25 => ?_) (fun hc_25 => ?_)
                  · rw [if_neg hc_25] at hq
                    refine lv_iload_n hx hb dX4_joined_130 rfl (lv_at hl 1 rfl) ?_
                    refine lv_iload_n hx hb dX4_joined_131 rfl (lv_at hl 2 rfl) ?_
                    obtain ⟨hd_24, hq⟩ := bk_ck_some hq
                    refine lv_idiv hx hb dX4_joined_132 hd_24 ?_
                    cases hq
                    exact bk_iret C hH dX4_joined_133
                  · rw [if_pos hc_25] at hq
                    refine lv_iconst (v := 0) hx hb dX4_joined_126 (by decide) ?_
                    refine lv_goto (tgt := 133) hx hb dX4_joined_127 (by decide) ?_
                    cases hq
                    exact bk_iret C hH dX4_joined_133
set_option maxRecDepth 100000 in
theorem c_X4_joined {l : Launch} {G : bk_G} {N : Nat} {Y : bk_Lay} {V : bk_Val} {x0 : Int32} {x1 : Int32} {x2 : Int32} {out : Int32} (hq : q_X4_joined N Y V x0 x1 x2 = some out) : Met l yX4_joined (bk_ws yX4_joined cX4_joined 3 (some FieldType.int)) rm_X4_joined (bk_Pc G [.int x0, .int x1, .int x2] Y V) (bk_Q G (some (.int out)) Y V) 0 0 (bk_A G) :=
  bk_met (by decide) (Nat.le_of_ble_eq_true rfl) (fun p e s m args below meth c ls C hnm hH hl => w_X4_joined C _ _ _ _ _ _ _ _ hl hH hq)

def rm_X4_valueBy : Room := bk_rm 2 0 0 42
set_option maxRecDepth 100000 in
set_option maxHeartbeats 4000000 in
theorem w_X4_valueBy_125 (C : bk_C G p s m args meth c cX4_valueBy RX4 5 (some FieldType.int)) (k4 : bk_Val → Nat → Nat → Int32 → Int32 → Option (Int32 × bk_Val)) (i4 : ∀ (V : bk_Val) (a0 : Nat) (a1 : Nat) (x2 : Int32) (x3 : Int32) (H : Heap) (locs : List Loc) (ls : Array Slot) (out : Int32 × bk_Val), lv_has ls 5 [(0, .ref a0), (1, .ref a1), (2, .int x2), (3, .int x3)] → bk_H G Y V s.heap H locs → k4 V a0 a1 x2 x3 = some out → W p l e rm_X4_valueBy s m args below meth c H locs 0 0 (MQ below (bk_Q G (some (.int out.1)) Y out.2) args s 0 0 (bk_A G)) (F0 m 4 ls [])) : ∀ (V : bk_Val) (a0 : Nat) (a1 : Nat) (x2 : Int32) (x3 : Int32) (H : Heap) (locs : List Loc) (ls : Array Slot) (out : Int32 × bk_Val), lv_has ls 5 [(0, .ref a0), (1, .ref a1), (2, .int x2), (3, .int x3)] → bk_H G Y V s.heap H locs → q_X4_valueBy_125 N Y k4 V a0 a1 x2 x3 = some out → W p l e rm_X4_valueBy s m args below meth c H locs 0 0 (MQ below (bk_Q G (some (.int out.1)) Y out.2) args s 0 0 (bk_A G)) (F0 m 125 ls []) := by
  have hx := C.1
  have hb := C.2.1
  intro V a0 a1 x2 x3 H locs ls out hl hH hq
  unfold q_X4_valueBy_125 at hq
  refine lv_iinc (v := (x3 + 1)) (lv' := [(3, .int (x3 + 1)), (0, .ref a0), (1, .ref a1), (2, .int x2)]) hx hb dX4_valueBy_125 hl (k := 3) rfl rfl (by decide) rfl (fun ls hl => ?_)
  refine lv_goto (tgt := 4) hx hb dX4_valueBy_128 (by decide) ?_
  exact i4 _ _ _ _ _ _ _ _ _ (lv_sub hl [1, 2, 3, 0] rfl) hH hq

set_option maxRecDepth 100000 in
set_option maxHeartbeats 4000000 in
theorem w_X4_valueBy_83 (C : bk_C G p s m args meth c cX4_valueBy RX4 5 (some FieldType.int)) (k4 : bk_Val → Nat → Nat → Int32 → Int32 → Option (Int32 × bk_Val)) (i4 : ∀ (V : bk_Val) (a0 : Nat) (a1 : Nat) (x2 : Int32) (x3 : Int32) (H : Heap) (locs : List Loc) (ls : Array Slot) (out : Int32 × bk_Val), lv_has ls 5 [(0, .ref a0), (1, .ref a1), (2, .int x2), (3, .int x3)] → bk_H G Y V s.heap H locs → k4 V a0 a1 x2 x3 = some out → W p l e rm_X4_valueBy s m args below meth c H locs 0 0 (MQ below (bk_Q G (some (.int out.1)) Y out.2) args s 0 0 (bk_A G)) (F0 m 4 ls [])) : ∀ (V : bk_Val) (a0 : Nat) (a1 : Nat) (x2 : Int32) (x3 : Int32) (sa0 : Nat) (sx1 : Int32) (sx2 : Int32) (H : Heap) (locs : List Loc) (ls : Array Slot) (out : Int32 × bk_Val), lv_has ls 5 [(0, .ref a0), (1, .ref a1), (2, .int x2), (3, .int x3)] → bk_H G Y V s.heap H locs → q_X4_valueBy_83 N Y k4 V a0 a1 x2 x3 sa0 sx1 sx2 = some out → W p l e rm_X4_valueBy s m args below meth c H locs 0 0 (MQ below (bk_Q G (some (.int out.1)) Y out.2) args s 0 0 (bk_A G)) (F0 m 83 ls [.int sx2, .int sx1, .ref sa0]) := by
  have hx := C.1
  have hb := C.2.1
  intro V a0 a1 x2 x3 sa0 sx1 sx2 H locs ls out hl hH hq
  unfold q_X4_valueBy_83 at hq
  obtain ⟨r_2, hr_1, hq⟩ := bk_bd_some hq
  refine bk_callS (rest := [.int sx1, .ref sa0]) (As := [.int sx2]) (ro := (some (.int r_2))) (Y1 := Y) (V1 := V) C hH hl.1 (c_X4_oneIf hr_1) mc_X4_oneIf st_X4_oneIf lk_RX4_30 rfl ⟨rfl, rfl⟩ ⟨by decide, by decide⟩ rfl (Nat.le_of_ble_eq_true rfl) dX4_valueBy_83 ⟨by decide, by decide⟩ (fun H locs hH => ?_)
  obtain ⟨ha_3, hq⟩ := bk_ck_some hq
  obtain ⟨hi_4, hq⟩ := bk_ck_some hq
  refine bk_iast C hH (bk_arr ha_3) (bk_in_vp hi_4) dX4_valueBy_86 (fun V_5 H locs e_6 hH => ?_)
  have hq := bk_let_eq e_6 hq
  refine lv_goto (tgt := 125) hx hb dX4_valueBy_87 (by decide) ?_
  exact w_X4_valueBy_125 C _ i4 _ _ _ _ _ _ _ _ _ (lv_sub hl [0, 1, 2, 3] rfl) hH hq

set_option maxRecDepth 100000 in
set_option maxHeartbeats 4000000 in
theorem w_X4_valueBy_4 (C : bk_C G p s m args meth c cX4_valueBy RX4 5 (some FieldType.int)) : ∀ (n : Nat), ∀ (V : bk_Val) (a0 : Nat) (a1 : Nat) (x2 : Int32) (x3 : Int32) (H : Heap) (locs : List Loc) (ls : Array Slot) (out : Int32 × bk_Val), lv_has ls 5 [(0, .ref a0), (1, .ref a1), (2, .int x2), (3, .int x3)] → bk_H G Y V s.heap H locs → q_X4_valueBy_4 N Y n V a0 a1 x2 x3 = some out → W p l e rm_X4_valueBy s m args below meth c H locs 0 0 (MQ below (bk_Q G (some (.int out.1)) Y out.2) args s 0 0 (bk_A G)) (F0 m 4 ls []) := by
  have hx := C.1
  have hb := C.2.1
  intro n
  induction n with
  | zero =>
    intro V a0 a1 x2 x3 H locs ls out hl hH hq
    exact nomatch (show (none : Option (Int32 × bk_Val)) = some out from hq)
  | succ n ih =>
    intro V a0 a1 x2 x3 H locs ls out hl hH hq
    unfold q_X4_valueBy_4 at hq
    refine lv_iload_n hx hb dX4_valueBy_4 rfl (lv_at hl 3 rfl) ?_
    refine lv_aload_n hx hb dX4_valueBy_5 rfl (lv_at hl 0 rfl) ?_
    obtain ⟨hs_7, hq⟩ := bk_ck_some hq
    refine bk_geti C hH fl_RX4_18 hs_7 rfl dX4_valueBy_6 ?_
    refine lv_icmp_ge (tgt := 131) hx hb dX4_valueBy_9 (by decide) (fun hc_47 => ?_) (fun hc_47 => ?_)
    · rw [if_pos hc_47] at hq
      refine lv_iload_n hx hb dX4_valueBy_131 rfl (lv_at hl 2 rfl) ?_
      refine lv_if_le (tgt := 144) hx hb dX4_valueBy_132 (by decide) (fun hc_12 => ?_) (fun hc_12 => ?_)
      · rw [if_pos hc_12] at hq
        refine lv_iconst (v := 0) hx hb dX4_valueBy_144 (by decide) ?_
        cases hq
        exact bk_iret C hH dX4_valueBy_145
      · rw [if_neg hc_12] at hq
        refine lv_aload_n hx hb dX4_valueBy_135 rfl (lv_at hl 0 rfl) ?_
        obtain ⟨b_8, hr_9, hq⟩ := bk_bd_some hq
        refine bk_getr C hH fl_RX4_15 hs_7 rfl hr_9 dX4_valueBy_136 ?_
        refine lv_iconst (v := 0) hx hb dX4_valueBy_139 (by decide) ?_
        obtain ⟨ha_10, hq⟩ := bk_ck_some hq
        obtain ⟨hi_11, hq⟩ := bk_ck_some hq
        refine bk_iald C hH (bk_arr ha_10) (bk_in_vp hi_11) dX4_valueBy_140 ?_
        refine lv_goto (tgt := 145) hx hb dX4_valueBy_141 (by decide) ?_
        cases hq
        exact bk_iret C hH dX4_valueBy_145
    · rw [if_neg hc_47] at hq
      refine lv_aload_n hx hb dX4_valueBy_12 rfl (lv_at hl 0 rfl) ?_
      obtain ⟨b_13, hr_14, hq⟩ := bk_bd_some hq
      refine bk_getr C hH fl_RX4_9 hs_7 rfl hr_14 dX4_valueBy_13 ?_
      refine lv_iload_n hx hb dX4_valueBy_16 rfl (lv_at hl 3 rfl) ?_
      obtain ⟨ha_15, hq⟩ := bk_ck_some hq
      obtain ⟨hi_16, hq⟩ := bk_ck_some hq
      refine bk_iald C hH (bk_arr ha_15) (bk_in_vp hi_16) dX4_valueBy_17 ?_
      refine lv_topi (fun x4_17 e_18 => ?_)
      have hq := bk_let_eq e_18 hq
      refine lv_istore (lv' := [(4, .int x4_17), (0, .ref a0), (1, .ref a1), (2, .int x2), (3, .int x3)]) hx hb dX4_valueBy_18 hl (by decide) rfl (fun ls hl => ?_)
      refine lv_iload hx hb dX4_valueBy_20 (lv_at hl 0 rfl) ?_
      refine lv_if_lt (tgt := 49) hx hb dX4_valueBy_22 (by decide) (fun hc_46 => ?_) (fun hc_46 => ?_)
      · rw [if_pos hc_46] at hq
        refine lv_iload hx hb dX4_valueBy_49 (lv_at hl 0 rfl) ?_
        refine lv_bipush (v := (-3)) hx hb dX4_valueBy_51 (by decide) ?_
        refine lv_icmp_ne (tgt := 90) hx hb dX4_valueBy_53 (by decide) (fun hc_36 => ?_) (fun hc_36 => ?_)
        · rw [if_neg hc_36] at hq
          refine lv_iload_n hx hb dX4_valueBy_90 rfl (lv_at hl 3 rfl) ?_
          refine lv_iconst (v := 1) hx hb dX4_valueBy_91 (by decide) ?_
          refine lv_icmp_le (tgt := 125) hx hb dX4_valueBy_92 (by decide) (fun hc_29 => ?_) (fun hc_29 => ?_)
          · rw [if_pos hc_29] at hq
            exact w_X4_valueBy_125 C _ ih _ _ _ _ _ _ _ _ _ (lv_sub hl [1, 2, 3, 4] rfl) hH hq
          · rw [if_neg hc_29] at hq
            refine lv_iinc (v := (x2 + (-1))) (lv' := [(2, .int (x2 + (-1))), (4, .int x4_17), (0, .ref a0), (1, .ref a1), (3, .int x3)]) hx hb dX4_valueBy_95 hl (k := 3) rfl rfl (by decide) rfl (fun ls hl => ?_)
            refine lv_aload_n hx hb dX4_valueBy_98 rfl (lv_at hl 2 rfl) ?_
            obtain ⟨b_19, hr_20, hq⟩ := bk_bd_some hq
            refine bk_getr C hH fl_RX4_15 hs_7 rfl hr_20 dX4_valueBy_99 ?_
            refine lv_iload_n hx hb dX4_valueBy_102 rfl (lv_at hl 0 rfl) ?_
            refine lv_iconst (v := 1) hx hb dX4_valueBy_103 (by decide) ?_
            refine lv_isub hx hb dX4_valueBy_104 ?_
            refine lv_iload hx hb dX4_valueBy_105 (lv_at hl 1 rfl) ?_
            refine lv_aload_n hx hb dX4_valueBy_107 rfl (lv_at hl 2 rfl) ?_
            refine bk_getr C hH fl_RX4_15 hs_7 rfl hr_20 dX4_valueBy_108 ?_
            refine lv_iload_n hx hb dX4_valueBy_111 rfl (lv_at hl 0 rfl) ?_
            refine lv_iconst (v := 1) hx hb dX4_valueBy_112 (by decide) ?_
            refine lv_isub hx hb dX4_valueBy_113 ?_
            obtain ⟨ha_21, hq⟩ := bk_ck_some hq
            obtain ⟨hi_22, hq⟩ := bk_ck_some hq
            refine bk_iald C hH (bk_arr ha_21) (bk_in_vp hi_22) dX4_valueBy_114 ?_
            refine lv_aload_n hx hb dX4_valueBy_115 rfl (lv_at hl 2 rfl) ?_
            refine bk_getr C hH fl_RX4_15 hs_7 rfl hr_20 dX4_valueBy_116 ?_
            refine lv_iload_n hx hb dX4_valueBy_119 rfl (lv_at hl 0 rfl) ?_
            obtain ⟨hi_23, hq⟩ := bk_ck_some hq
            refine bk_iald C hH (bk_arr ha_21) (bk_in_vp hi_23) dX4_valueBy_120 ?_
            obtain ⟨r_25, hr_24, hq⟩ := bk_bd_some hq
            refine bk_callS (rest := [.int ((x2 + (-1)) - 1), .ref b_19]) (As := [.int x4_17, .int (bk_rI V b_19 ((x2 + (-1)) - 1).toNatClampNeg), .int (bk_rI V b_19 (x2 + (-1)).toNatClampNeg)]) (ro := (some (.int r_25))) (Y1 := Y) (V1 := V) C hH hl.1 (c_X4_joined hr_24) mc_X4_joined st_X4_joined lk_RX4_34 rfl ⟨rfl, rfl⟩ ⟨by decide, by decide⟩ rfl (Nat.le_of_ble_eq_true rfl) dX4_valueBy_121 ⟨by decide, by decide⟩ (fun H locs hH => ?_)
            obtain ⟨hi_26, hq⟩ := bk_ck_some hq
            refine bk_iast C hH (bk_arr ha_21) (bk_in_vp hi_26) dX4_valueBy_124 (fun V_27 H locs e_28 hH => ?_)
            have hq := bk_let_eq e_28 hq
            exact w_X4_valueBy_125 C _ ih _ _ _ _ _ _ _ _ _ (lv_sub hl [2, 3, 0, 4] rfl) hH hq
        · rw [if_pos hc_36] at hq
          refine lv_iload_n hx hb dX4_valueBy_56 rfl (lv_at hl 3 rfl) ?_
          refine lv_if_le (tgt := 125) hx hb dX4_valueBy_57 (by decide) (fun hc_35 => ?_) (fun hc_35 => ?_)
          · rw [if_pos hc_35] at hq
            exact w_X4_valueBy_125 C _ ih _ _ _ _ _ _ _ _ _ (lv_sub hl [1, 2, 3, 4] rfl) hH hq
          · rw [if_neg hc_35] at hq
            refine lv_aload_n hx hb dX4_valueBy_60 rfl (lv_at hl 1 rfl) ?_
            obtain ⟨b_30, hr_31, hq⟩ := bk_bd_some hq
            refine bk_getr C hH fl_RX4_15 hs_7 rfl hr_31 dX4_valueBy_61 ?_
            refine lv_iload_n hx hb dX4_valueBy_64 rfl (lv_at hl 3 rfl) ?_
            refine lv_iconst (v := 1) hx hb dX4_valueBy_65 (by decide) ?_
            refine lv_isub hx hb dX4_valueBy_66 ?_
            refine lv_aload_n hx hb dX4_valueBy_67 rfl (lv_at hl 1 rfl) ?_
            refine bk_getr C hH fl_RX4_15 hs_7 rfl hr_31 dX4_valueBy_68 ?_
            refine lv_iload_n hx hb dX4_valueBy_71 rfl (lv_at hl 3 rfl) ?_
            refine lv_iconst (v := 1) hx hb dX4_valueBy_72 (by decide) ?_
            refine lv_isub hx hb dX4_valueBy_73 ?_
            obtain ⟨ha_32, hq⟩ := bk_ck_some hq
            obtain ⟨hi_33, hq⟩ := bk_ck_some hq
            refine bk_iald C hH (bk_arr ha_32) (bk_in_vp hi_33) dX4_valueBy_74 ?_
            refine lv_if_ne (tgt := 82) hx hb dX4_valueBy_75 (by decide) (fun hc_34 => ?_) (fun hc_34 => ?_)
            · rw [if_neg hc_34] at hq
              refine lv_iconst (v := 0) hx hb dX4_valueBy_82 (by decide) ?_
              exact w_X4_valueBy_83 C _ ih _ _ _ _ _ _ _ _ _ _ _ _ (lv_sub hl [1, 2, 3, 4] rfl) hH hq
            · rw [if_pos hc_34] at hq
              refine lv_iconst (v := 1) hx hb dX4_valueBy_78 (by decide) ?_
              refine lv_goto (tgt := 83) hx hb dX4_valueBy_79 (by decide) ?_
              exact w_X4_valueBy_83 C _ ih _ _ _ _ _ _ _ _ _ _ _ _ (lv_sub hl [1, 2, 3, 4] rfl) hH hq
      · rw [if_neg hc_46] at hq
        refine lv_iload_n hx hb dX4_valueBy_25 rfl (lv_at hl 3 rfl) ?_
        refine lv_bipush (v := 40) hx hb dX4_valueBy_26 (by decide) ?_
        refine lv_icmp_ge (tgt := 125) hx hb dX4_valueBy_28 (by decide) (fun hc_45 => ?_) (fun hc_45 => ?_)
        · rw [if_pos hc_45] at hq
          exact w_X4_valueBy_125 C _ ih _ _ _ _ _ _ _ _ _ (lv_sub hl [1, 2, 3, 4] rfl) hH hq
        · rw [if_neg hc_45] at hq
          refine lv_aload_n hx hb dX4_valueBy_31 rfl (lv_at hl 1 rfl) ?_
          obtain ⟨b_37, hr_38, hq⟩ := bk_bd_some hq
          refine bk_getr C hH fl_RX4_15 hs_7 rfl hr_38 dX4_valueBy_32 ?_
          refine lv_iload_n hx hb dX4_valueBy_35 rfl (lv_at hl 3 rfl) ?_
          refine lv_iload hx hb dX4_valueBy_36 (lv_at hl 0 rfl) ?_
          refine lv_aload_n hx hb dX4_valueBy_38 rfl (lv_at hl 2 rfl) ?_
          obtain ⟨r_40, hr_39, hq⟩ := bk_bd_some hq
          refine bk_callS (rest := [.int x2, .ref b_37]) (As := [.int x4_17, .ref a1]) (ro := (some (.int r_40))) (Y1 := Y) (V1 := V) C hH hl.1 (c_X4_numberOf hr_39) mc_X4_numberOf st_X4_numberOf lk_RX4_26 rfl ⟨rfl, rfl⟩ ⟨by decide, by decide⟩ rfl (Nat.le_of_ble_eq_true rfl) dX4_valueBy_39 ⟨by decide, by decide⟩ (fun H locs hH => ?_)
          obtain ⟨ha_41, hq⟩ := bk_ck_some hq
          obtain ⟨hi_42, hq⟩ := bk_ck_some hq
          refine bk_iast C hH (bk_arr ha_41) (bk_in_vp hi_42) dX4_valueBy_42 (fun V_43 H locs e_44 hH => ?_)
          have hq := bk_let_eq e_44 hq
          refine lv_iinc (v := (x2 + 1)) (lv' := [(2, .int (x2 + 1)), (4, .int x4_17), (0, .ref a0), (1, .ref a1), (3, .int x3)]) hx hb dX4_valueBy_43 hl (k := 3) rfl rfl (by decide) rfl (fun ls hl => ?_)
          refine lv_goto (tgt := 125) hx hb dX4_valueBy_46 (by decide) ?_
          exact w_X4_valueBy_125 C _ ih _ _ _ _ _ _ _ _ _ (lv_sub hl [2, 3, 0, 4] rfl) hH hq

set_option maxRecDepth 100000 in
set_option maxHeartbeats 4000000 in
theorem w_X4_valueBy (C : bk_C G p s m args meth c cX4_valueBy RX4 5 (some FieldType.int)) : ∀ (V : bk_Val) (a0 : Nat) (a1 : Nat) (H : Heap) (locs : List Loc) (ls : Array Slot) (out : Int32 × bk_Val), lv_has ls 5 [(0, .ref a0), (1, .ref a1)] → bk_H G Y V s.heap H locs → q_X4_valueBy N Y V a0 a1 = some out → W p l e rm_X4_valueBy s m args below meth c H locs 0 0 (MQ below (bk_Q G (some (.int out.1)) Y out.2) args s 0 0 (bk_A G)) (F0 m 0 ls []) := by
  have hx := C.1
  have hb := C.2.1
  intro V a0 a1 H locs ls out hl hH hq
  unfold q_X4_valueBy at hq
  refine lv_iconst (v := 0) hx hb dX4_valueBy_0 (by decide) ?_
  refine lv_istore_n (lv' := [(2, .int 0), (0, .ref a0), (1, .ref a1)]) hx hb dX4_valueBy_1 rfl hl (by decide) rfl (fun ls hl => ?_)
  refine lv_iconst (v := 0) hx hb dX4_valueBy_2 (by decide) ?_
  refine lv_istore_n (lv' := [(3, .int 0), (2, .int 0), (0, .ref a0), (1, .ref a1)]) hx hb dX4_valueBy_3 rfl hl (by decide) rfl (fun ls hl => ?_)
  exact w_X4_valueBy_4 C _ _ _ _ _ _ _ _ _ _ (lv_sub hl [2, 3, 1, 0] rfl) hH hq
set_option maxRecDepth 100000 in
theorem c_X4_valueBy {l : Launch} {G : bk_G} {N : Nat} {Y : bk_Lay} {V : bk_Val} {a0 : Nat} {a1 : Nat} {out : Int32 × bk_Val} (hq : q_X4_valueBy N Y V a0 a1 = some out) : Met l yX4_valueBy (bk_ws yX4_valueBy cX4_valueBy 5 (some FieldType.int)) rm_X4_valueBy (bk_Pc G [.ref a0, .ref a1] Y V) (bk_Q G (some (.int out.1)) Y out.2) 0 0 (bk_A G) :=
  bk_met (by decide) (Nat.le_of_ble_eq_true rfl) (fun p e s m args below meth c ls C hnm hH hl => w_X4_valueBy C _ _ _ _ _ _ _ hl hH hq)

def rm_X5_goneByHole : Room := bk_rm 3 0 0 66
set_option maxRecDepth 100000 in
set_option maxHeartbeats 4000000 in
theorem w_X5_goneByHole_81 (C : bk_C G p s m args meth c cX5_goneByHole RX5 5 (some FieldType.int)) : ∀ (V : bk_Val) (a0 : Nat) (sa0 : Nat) (sx1 : Int32) (sx2 : Int32) (H : Heap) (locs : List Loc) (ls : Array Slot) (out : Int32 × bk_Val), lv_has ls 5 [(0, .ref a0)] → bk_H G Y V s.heap H locs → q_X5_goneByHole_81 N Y V a0 sa0 sx1 sx2 = some out → W p l e rm_X5_goneByHole s m args below meth c H locs 0 0 (MQ below (bk_Q G (some (.int out.1)) Y out.2) args s 0 0 (bk_A G)) (F0 m 81 ls [.int sx2, .int sx1, .ref sa0]) := by
  have hx := C.1
  have hb := C.2.1
  intro V a0 sa0 sx1 sx2 H locs ls out hl hH hq
  unfold q_X5_goneByHole_81 at hq
  obtain ⟨ha_1, hq⟩ := bk_ck_some hq
  obtain ⟨hi_2, hq⟩ := bk_ck_some hq
  refine bk_iast C hH (bk_arr ha_1) (bk_in_vp hi_2) dX5_goneByHole_81 (fun V_3 H locs e_4 hH => ?_)
  have hq := bk_let_eq e_4 hq
  refine lv_iconst (v := 0) hx hb dX5_goneByHole_82 (by decide) ?_
  refine lv_aload_n hx hb dX5_goneByHole_83 rfl (lv_at hl 0 rfl) ?_
  obtain ⟨hs_5, hq⟩ := bk_ck_some hq
  obtain ⟨b_6, hr_7, hq⟩ := bk_bd_some hq
  refine bk_getr C hH fl_RX5_42 hs_5 rfl hr_7 dX5_goneByHole_84 ?_
  refine lv_aload_n hx hb dX5_goneByHole_87 rfl (lv_at hl 0 rfl) ?_
  obtain ⟨b_8, hr_9, hq⟩ := bk_bd_some hq
  refine bk_getr C hH fl_RX5_49 hs_5 rfl hr_9 dX5_goneByHole_88 ?_
  obtain ⟨hs_13, hq⟩ := bk_ck_some hq
  obtain ⟨r_11, V_12, hr_10, hq⟩ := bk_bd2_some hq
  refine bk_callV (rest := [.int 0]) (As := [.ref b_8]) (ro := (some (.int r_11))) (Y1 := Y) (V1 := V_12) C hH hl.1 (c_X4_valueBy hr_10) mc_X4_valueBy mv_X4_valueBy lk_RX5_127 hs_13 rfl rfl ⟨rfl, rfl⟩ ⟨by decide, by decide⟩ rfl (Nat.le_of_ble_eq_true rfl) dX5_goneByHole_91 ⟨by decide, by decide⟩ (fun H locs hH => ?_)
  refine bk_ldc C kc_RX5_131 dX5_goneByHole_94 ?_
  obtain ⟨r_15, hr_14, hq⟩ := bk_bd_some hq
  refine bk_callS (rest := [.int 0]) (As := [.int r_11, .int 50000]) (ro := (some (.int r_15))) (Y1 := Y) (V1 := V_12) C hH hl.1 (c_J9_min_7cf53 hr_14) mc_J9_min_7cf53 st_J9_min_7cf53 lk_RX5_110 rfl ⟨rfl, rfl⟩ ⟨by decide, by decide⟩ rfl (Nat.le_of_ble_eq_true rfl) dX5_goneByHole_96 ⟨by decide, by decide⟩ (fun H locs hH => ?_)
  obtain ⟨r_17, hr_16, hq⟩ := bk_bd_some hq
  refine bk_callS (rest := []) (As := [.int 0, .int r_15]) (ro := (some (.int r_17))) (Y1 := Y) (V1 := V_12) C hH hl.1 (c_J9_max_7cf53 hr_16) mc_J9_max_7cf53 st_J9_max_7cf53 lk_RX5_62 rfl ⟨rfl, rfl⟩ ⟨by decide, by decide⟩ rfl (Nat.le_of_ble_eq_true rfl) dX5_goneByHole_99 ⟨by decide, by decide⟩ (fun H locs hH => ?_)
  cases hq
  exact bk_iret C hH dX5_goneByHole_102

set_option maxRecDepth 100000 in
set_option maxHeartbeats 4000000 in
theorem w_X5_goneByHole (C : bk_C G p s m args meth c cX5_goneByHole RX5 5 (some FieldType.int)) : ∀ (V : bk_Val) (a0 : Nat) (x1 : Int32) (x2 : Int32) (x3 : Int32) (x4 : Int32) (H : Heap) (locs : List Loc) (ls : Array Slot) (out : Int32 × bk_Val), lv_has ls 5 [(0, .ref a0), (1, .int x1), (2, .int x2), (3, .int x3), (4, .int x4)] → bk_H G Y V s.heap H locs → q_X5_goneByHole N Y V a0 x1 x2 x3 x4 = some out → W p l e rm_X5_goneByHole s m args below meth c H locs 0 0 (MQ below (bk_Q G (some (.int out.1)) Y out.2) args s 0 0 (bk_A G)) (F0 m 0 ls []) := by
  have hx := C.1
  have hb := C.2.1
  intro V a0 x1 x2 x3 x4 H locs ls out hl hH hq
  unfold q_X5_goneByHole at hq
  refine lv_aload_n hx hb dX5_goneByHole_0 rfl (lv_at hl 0 rfl) ?_
  obtain ⟨hs_18, hq⟩ := bk_ck_some hq
  obtain ⟨b_19, hr_20, hq⟩ := bk_bd_some hq
  refine bk_getr C hH fl_RX5_42 hs_18 rfl hr_20 dX5_goneByHole_1 ?_
  obtain ⟨hs_23, hq⟩ := bk_ck_some hq
  obtain ⟨r_22, hr_21, hq⟩ := bk_bd_some hq
  refine bk_callV (rest := []) (As := []) (ro := (some (.int r_22))) (Y1 := Y) (V1 := V) C hH hl.1 (c_X4_isTold hr_21) mc_X4_isTold mv_X4_isTold lk_RX5_120 hs_23 rfl rfl ⟨rfl, rfl⟩ ⟨by decide, by decide⟩ rfl (Nat.le_of_ble_eq_true rfl) dX5_goneByHole_4 ⟨by decide, by decide⟩ (fun H locs hH => ?_)
  refine lv_if_ne (tgt := 22) hx hb dX5_goneByHole_7 (by decide) (fun hc_58 => ?_) (fun hc_58 => ?_)
  · rw [if_neg hc_58] at hq
    refine lv_aload_n hx hb dX5_goneByHole_22 rfl (lv_at hl 0 rfl) ?_
    obtain ⟨b_24, hr_25, hq⟩ := bk_bd_some hq
    refine bk_getr C hH fl_RX5_49 hs_18 rfl hr_25 dX5_goneByHole_23 ?_
    refine lv_iconst (v := 0) hx hb dX5_goneByHole_26 (by decide) ?_
    refine lv_aload_n hx hb dX5_goneByHole_27 rfl (lv_at hl 0 rfl) ?_
    obtain ⟨b_26, hr_27, hq⟩ := bk_bd_some hq
    refine bk_getr C hH fl_RX5_21 hs_18 rfl hr_27 dX5_goneByHole_28 ?_
    obtain ⟨hs_28, hq⟩ := bk_ck_some hq
    obtain ⟨b_29, hr_30, hq⟩ := bk_bd_some hq
    refine bk_getr C hH fl_RX5_124 hs_28 rfl hr_30 dX5_goneByHole_31 ?_
    refine lv_iload_n hx hb dX5_goneByHole_34 rfl (lv_at hl 1 rfl) ?_
    obtain ⟨ha_31, hq⟩ := bk_ck_some hq
    obtain ⟨hi_32, hq⟩ := bk_ck_some hq
    refine bk_iald C hH (bk_arr ha_31) (bk_in_vp hi_32) dX5_goneByHole_35 ?_
    obtain ⟨ha_33, hq⟩ := bk_ck_some hq
    obtain ⟨hi_34, hq⟩ := bk_ck_some hq
    refine bk_iast C hH (bk_arr ha_33) (bk_in_vp hi_34) dX5_goneByHole_36 (fun V_35 H locs e_36 hH => ?_)
    have hq := bk_let_eq e_36 hq
    refine lv_aload_n hx hb dX5_goneByHole_37 rfl (lv_at hl 0 rfl) ?_
    refine bk_getr C hH fl_RX5_49 hs_18 rfl hr_25 dX5_goneByHole_38 ?_
    refine lv_iconst (v := 1) hx hb dX5_goneByHole_41 (by decide) ?_
    refine lv_aload_n hx hb dX5_goneByHole_42 rfl (lv_at hl 0 rfl) ?_
    refine bk_getr C hH fl_RX5_21 hs_18 rfl hr_27 dX5_goneByHole_43 ?_
    obtain ⟨b_37, hr_38, hq⟩ := bk_bd_some hq
    refine bk_getr C hH fl_RX5_89 hs_28 rfl hr_38 dX5_goneByHole_46 ?_
    refine lv_iload_n hx hb dX5_goneByHole_49 rfl (lv_at hl 1 rfl) ?_
    obtain ⟨ha_39, hq⟩ := bk_ck_some hq
    obtain ⟨hi_40, hq⟩ := bk_ck_some hq
    refine bk_iald C hH (bk_arr ha_39) (bk_in_vp hi_40) dX5_goneByHole_50 ?_
    obtain ⟨hi_41, hq⟩ := bk_ck_some hq
    refine bk_iast C hH (bk_arr ha_33) (bk_in_vp hi_41) dX5_goneByHole_51 (fun V_42 H locs e_43 hH => ?_)
    have hq := bk_let_eq e_43 hq
    refine lv_aload_n hx hb dX5_goneByHole_52 rfl (lv_at hl 0 rfl) ?_
    refine bk_getr C hH fl_RX5_49 hs_18 rfl hr_25 dX5_goneByHole_53 ?_
    refine lv_iconst (v := 2) hx hb dX5_goneByHole_56 (by decide) ?_
    refine lv_iload_n hx hb dX5_goneByHole_57 rfl (lv_at hl 2 rfl) ?_
    obtain ⟨hi_44, hq⟩ := bk_ck_some hq
    refine bk_iast C hH (bk_arr ha_33) (bk_in_vp hi_44) dX5_goneByHole_58 (fun V_45 H locs e_46 hH => ?_)
    have hq := bk_let_eq e_46 hq
    refine lv_aload_n hx hb dX5_goneByHole_59 rfl (lv_at hl 0 rfl) ?_
    refine bk_getr C hH fl_RX5_49 hs_18 rfl hr_25 dX5_goneByHole_60 ?_
    refine lv_iconst (v := 3) hx hb dX5_goneByHole_63 (by decide) ?_
    refine lv_iload_n hx hb dX5_goneByHole_64 rfl (lv_at hl 3 rfl) ?_
    obtain ⟨hi_47, hq⟩ := bk_ck_some hq
    refine bk_iast C hH (bk_arr ha_33) (bk_in_vp hi_47) dX5_goneByHole_65 (fun V_48 H locs e_49 hH => ?_)
    have hq := bk_let_eq e_49 hq
    refine lv_aload_n hx hb dX5_goneByHole_66 rfl (lv_at hl 0 rfl) ?_
    refine bk_getr C hH fl_RX5_49 hs_18 rfl hr_25 dX5_goneByHole_67 ?_
    refine lv_iconst (v := 4) hx hb dX5_goneByHole_70 (by decide) ?_
    refine lv_iload hx hb dX5_goneByHole_71 (lv_at hl 4 rfl) ?_
    refine lv_if_eq (tgt := 80) hx hb dX5_goneByHole_73 (by decide) (fun hc_50 => ?_) (fun hc_50 => ?_)
    · rw [if_pos hc_50] at hq
      refine lv_iconst (v := 0) hx hb dX5_goneByHole_80 (by decide) ?_
      exact w_X5_goneByHole_81 C _ _ _ _ _ _ _ _ _ (lv_sub hl [0] rfl) hH hq
    · rw [if_neg hc_50] at hq
      refine lv_iconst (v := 1) hx hb dX5_goneByHole_76 (by decide) ?_
      refine lv_goto (tgt := 81) hx hb dX5_goneByHole_77 (by decide) ?_
      exact w_X5_goneByHole_81 C _ _ _ _ _ _ _ _ _ (lv_sub hl [0] rfl) hH hq
  · rw [if_pos hc_58] at hq
    refine lv_aload_n hx hb dX5_goneByHole_10 rfl (lv_at hl 0 rfl) ?_
    obtain ⟨b_51, hr_52, hq⟩ := bk_bd_some hq
    refine bk_getr C hH fl_RX5_21 hs_18 rfl hr_52 dX5_goneByHole_11 ?_
    obtain ⟨hs_53, hq⟩ := bk_ck_some hq
    obtain ⟨b_54, hr_55, hq⟩ := bk_bd_some hq
    refine bk_getr C hH fl_RX5_124 hs_53 rfl hr_55 dX5_goneByHole_14 ?_
    refine lv_iload_n hx hb dX5_goneByHole_17 rfl (lv_at hl 1 rfl) ?_
    obtain ⟨ha_56, hq⟩ := bk_ck_some hq
    obtain ⟨hi_57, hq⟩ := bk_ck_some hq
    refine bk_iald C hH (bk_arr ha_56) (bk_in_vp hi_57) dX5_goneByHole_18 ?_
    refine lv_iload_n hx hb dX5_goneByHole_19 rfl (lv_at hl 2 rfl) ?_
    refine lv_imul hx hb dX5_goneByHole_20 ?_
    cases hq
    exact bk_iret C hH dX5_goneByHole_21
set_option maxRecDepth 100000 in
theorem c_X5_goneByHole {l : Launch} {G : bk_G} {N : Nat} {Y : bk_Lay} {V : bk_Val} {a0 : Nat} {x1 : Int32} {x2 : Int32} {x3 : Int32} {x4 : Int32} {out : Int32 × bk_Val} (hq : q_X5_goneByHole N Y V a0 x1 x2 x3 x4 = some out) : Met l yX5_goneByHole (bk_ws yX5_goneByHole cX5_goneByHole 5 (some FieldType.int)) rm_X5_goneByHole (bk_Pc G [.ref a0, .int x1, .int x2, .int x3, .int x4] Y V) (bk_Q G (some (.int out.1)) Y out.2) 0 0 (bk_A G) :=
  bk_met (by decide) (Nat.le_of_ble_eq_true rfl) (fun p e s m args below meth c ls C hnm hH hl => w_X5_goneByHole C _ _ _ _ _ _ _ _ _ _ hl hH hq)

def rm_X5_goneBy : Room := bk_rm 4 0 0 90
set_option maxRecDepth 100000 in
set_option maxHeartbeats 4000000 in
theorem w_X5_goneBy_47 (C : bk_C G p s m args meth c cX5_goneBy RX5 7 (some FieldType.int)) (k6 : bk_Val → Nat → Int32 → Int32 → Int32 → Int32 → Int32 → Int32 → Option (Int32 × bk_Val)) (i6 : ∀ (V : bk_Val) (a0 : Nat) (x1 : Int32) (x2 : Int32) (x3 : Int32) (x4 : Int32) (x5 : Int32) (x6 : Int32) (H : Heap) (locs : List Loc) (ls : Array Slot) (out : Int32 × bk_Val), lv_has ls 7 [(0, .ref a0), (1, .int x1), (2, .int x2), (3, .int x3), (4, .int x4), (5, .int x5), (6, .int x6)] → bk_H G Y V s.heap H locs → k6 V a0 x1 x2 x3 x4 x5 x6 = some out → W p l e rm_X5_goneBy s m args below meth c H locs 0 0 (MQ below (bk_Q G (some (.int out.1)) Y out.2) args s 0 0 (bk_A G)) (F0 m 6 ls [])) : ∀ (V : bk_Val) (a0 : Nat) (x1 : Int32) (x2 : Int32) (x3 : Int32) (x4 : Int32) (x5 : Int32) (x6 : Int32) (H : Heap) (locs : List Loc) (ls : Array Slot) (out : Int32 × bk_Val), lv_has ls 7 [(0, .ref a0), (1, .int x1), (2, .int x2), (3, .int x3), (4, .int x4), (5, .int x5), (6, .int x6)] → bk_H G Y V s.heap H locs → q_X5_goneBy_47 N Y k6 V a0 x1 x2 x3 x4 x5 x6 = some out → W p l e rm_X5_goneBy s m args below meth c H locs 0 0 (MQ below (bk_Q G (some (.int out.1)) Y out.2) args s 0 0 (bk_A G)) (F0 m 47 ls []) := by
  have hx := C.1
  have hb := C.2.1
  intro V a0 x1 x2 x3 x4 x5 x6 H locs ls out hl hH hq
  unfold q_X5_goneBy_47 at hq
  refine lv_iinc (v := (x6 + 1)) (lv' := [(6, .int (x6 + 1)), (0, .ref a0), (1, .int x1), (2, .int x2), (3, .int x3), (4, .int x4), (5, .int x5)]) hx hb dX5_goneBy_47 hl (k := 6) rfl rfl (by decide) rfl (fun ls hl => ?_)
  refine lv_goto (tgt := 6) hx hb dX5_goneBy_50 (by decide) ?_
  exact i6 _ _ _ _ _ _ _ _ _ _ _ _ (lv_sub hl [1, 2, 3, 4, 5, 6, 0] rfl) hH hq

set_option maxRecDepth 100000 in
set_option maxHeartbeats 4000000 in
theorem w_X5_goneBy_6 (C : bk_C G p s m args meth c cX5_goneBy RX5 7 (some FieldType.int)) : ∀ (n : Nat), ∀ (V : bk_Val) (a0 : Nat) (x1 : Int32) (x2 : Int32) (x3 : Int32) (x4 : Int32) (x5 : Int32) (x6 : Int32) (H : Heap) (locs : List Loc) (ls : Array Slot) (out : Int32 × bk_Val), lv_has ls 7 [(0, .ref a0), (1, .int x1), (2, .int x2), (3, .int x3), (4, .int x4), (5, .int x5), (6, .int x6)] → bk_H G Y V s.heap H locs → q_X5_goneBy_6 N Y n V a0 x1 x2 x3 x4 x5 x6 = some out → W p l e rm_X5_goneBy s m args below meth c H locs 0 0 (MQ below (bk_Q G (some (.int out.1)) Y out.2) args s 0 0 (bk_A G)) (F0 m 6 ls []) := by
  have hx := C.1
  have hb := C.2.1
  intro n
  induction n with
  | zero =>
    intro V a0 x1 x2 x3 x4 x5 x6 H locs ls out hl hH hq
    exact nomatch (show (none : Option (Int32 × bk_Val)) = some out from hq)
  | succ n ih =>
    intro V a0 x1 x2 x3 x4 x5 x6 H locs ls out hl hH hq
    unfold q_X5_goneBy_6 at hq
    refine lv_iload hx hb dX5_goneBy_6 (lv_at hl 6 rfl) ?_
    refine lv_aload_n hx hb dX5_goneBy_8 rfl (lv_at hl 0 rfl) ?_
    obtain ⟨hs_1, hq⟩ := bk_ck_some hq
    obtain ⟨b_2, hr_3, hq⟩ := bk_bd_some hq
    refine bk_getr C hH fl_RX5_21 hs_1 rfl hr_3 dX5_goneBy_9 ?_
    obtain ⟨hs_4, hq⟩ := bk_ck_some hq
    refine bk_geti C hH fl_RX5_55 hs_4 rfl dX5_goneBy_12 ?_
    refine lv_icmp_ge (tgt := 53) hx hb dX5_goneBy_15 (by decide) (fun hc_11 => ?_) (fun hc_11 => ?_)
    · rw [if_pos hc_11] at hq
      refine lv_iload hx hb dX5_goneBy_53 (lv_at hl 5 rfl) ?_
      refine lv_iload_n hx hb dX5_goneBy_55 rfl (lv_at hl 2 rfl) ?_
      obtain ⟨r_6, hr_5, hq⟩ := bk_bd_some hq
      refine bk_callS (rest := []) (As := [.int x5, .int x2]) (ro := (some (.int r_6))) (Y1 := Y) (V1 := V) C hH hl.1 (c_J9_min_7cf53 hr_5) mc_J9_min_7cf53 st_J9_min_7cf53 lk_RX5_110 rfl ⟨rfl, rfl⟩ ⟨by decide, by decide⟩ rfl (Nat.le_of_ble_eq_true rfl) dX5_goneBy_56 ⟨by decide, by decide⟩ (fun H locs hH => ?_)
      cases hq
      exact bk_iret C hH dX5_goneBy_59
    · rw [if_neg hc_11] at hq
      refine lv_iload_n hx hb dX5_goneBy_18 rfl (lv_at hl 1 rfl) ?_
      refine lv_iload hx hb dX5_goneBy_19 (lv_at hl 6 rfl) ?_
      refine bk_ishr hx hb dX5_goneBy_21 ?_
      refine lv_iconst (v := 1) hx hb dX5_goneBy_22 (by decide) ?_
      refine lv_iand hx hb dX5_goneBy_23 ?_
      refine lv_iconst (v := 1) hx hb dX5_goneBy_24 (by decide) ?_
      refine lv_icmp_ne (tgt := 47) hx hb dX5_goneBy_25 (by decide) (fun hc_10 => ?_) (fun hc_10 => ?_)
      · rw [if_neg hc_10] at hq
        exact w_X5_goneBy_47 C _ ih _ _ _ _ _ _ _ _ _ _ _ _ (lv_sub hl [0, 1, 2, 3, 4, 5, 6] rfl) hH hq
      · rw [if_pos hc_10] at hq
        refine lv_iload hx hb dX5_goneBy_28 (lv_at hl 5 rfl) ?_
        refine lv_aload_n hx hb dX5_goneBy_30 rfl (lv_at hl 0 rfl) ?_
        refine lv_iload hx hb dX5_goneBy_31 (lv_at hl 6 rfl) ?_
        refine lv_iload_n hx hb dX5_goneBy_33 rfl (lv_at hl 2 rfl) ?_
        refine lv_sipush (v := 1000) hx hb dX5_goneBy_34 (by decide) ?_
        refine lv_idiv hx hb dX5_goneBy_37 (by decide) ?_
        refine lv_iload_n hx hb dX5_goneBy_38 rfl (lv_at hl 3 rfl) ?_
        refine lv_iload hx hb dX5_goneBy_39 (lv_at hl 4 rfl) ?_
        obtain ⟨r_8, V_9, hr_7, hq⟩ := bk_bd2_some hq
        refine bk_callV (rest := [.int x5]) (As := [.int x6, .int (x2 / 1000), .int x3, .int x4]) (ro := (some (.int r_8))) (Y1 := Y) (V1 := V_9) C hH hl.1 (c_X5_goneByHole hr_7) mc_X5_goneByHole mv_X5_goneByHole lk_RX5_116 hs_1 rfl rfl ⟨rfl, rfl⟩ ⟨by decide, by decide⟩ rfl (Nat.le_of_ble_eq_true rfl) dX5_goneBy_41 ⟨by decide, by decide⟩ (fun H locs hH => ?_)
        refine lv_iadd hx hb dX5_goneBy_44 ?_
        refine lv_istore (lv' := [(5, .int (x5 + r_8)), (0, .ref a0), (1, .int x1), (2, .int x2), (3, .int x3), (4, .int x4), (6, .int x6)]) hx hb dX5_goneBy_45 hl (by decide) rfl (fun ls hl => ?_)
        exact w_X5_goneBy_47 C _ ih _ _ _ _ _ _ _ _ _ _ _ _ (lv_sub hl [1, 2, 3, 4, 5, 0, 6] rfl) hH hq

set_option maxRecDepth 100000 in
set_option maxHeartbeats 4000000 in
theorem w_X5_goneBy (C : bk_C G p s m args meth c cX5_goneBy RX5 7 (some FieldType.int)) : ∀ (V : bk_Val) (a0 : Nat) (x1 : Int32) (x2 : Int32) (x3 : Int32) (x4 : Int32) (H : Heap) (locs : List Loc) (ls : Array Slot) (out : Int32 × bk_Val), lv_has ls 7 [(0, .ref a0), (1, .int x1), (2, .int x2), (3, .int x3), (4, .int x4)] → bk_H G Y V s.heap H locs → q_X5_goneBy N Y V a0 x1 x2 x3 x4 = some out → W p l e rm_X5_goneBy s m args below meth c H locs 0 0 (MQ below (bk_Q G (some (.int out.1)) Y out.2) args s 0 0 (bk_A G)) (F0 m 0 ls []) := by
  have hx := C.1
  have hb := C.2.1
  intro V a0 x1 x2 x3 x4 H locs ls out hl hH hq
  unfold q_X5_goneBy at hq
  refine lv_iconst (v := 0) hx hb dX5_goneBy_0 (by decide) ?_
  refine lv_istore (lv' := [(5, .int 0), (0, .ref a0), (1, .int x1), (2, .int x2), (3, .int x3), (4, .int x4)]) hx hb dX5_goneBy_1 hl (by decide) rfl (fun ls hl => ?_)
  refine lv_iconst (v := 0) hx hb dX5_goneBy_3 (by decide) ?_
  refine lv_istore (lv' := [(6, .int 0), (5, .int 0), (0, .ref a0), (1, .int x1), (2, .int x2), (3, .int x3), (4, .int x4)]) hx hb dX5_goneBy_4 hl (by decide) rfl (fun ls hl => ?_)
  exact w_X5_goneBy_6 C _ _ _ _ _ _ _ _ _ _ _ _ _ (lv_sub hl [2, 3, 4, 5, 6, 1, 0] rfl) hH hq
set_option maxRecDepth 100000 in
theorem c_X5_goneBy {l : Launch} {G : bk_G} {N : Nat} {Y : bk_Lay} {V : bk_Val} {a0 : Nat} {x1 : Int32} {x2 : Int32} {x3 : Int32} {x4 : Int32} {out : Int32 × bk_Val} (hq : q_X5_goneBy N Y V a0 x1 x2 x3 x4 = some out) : Met l yX5_goneBy (bk_ws yX5_goneBy cX5_goneBy 7 (some FieldType.int)) rm_X5_goneBy (bk_Pc G [.ref a0, .int x1, .int x2, .int x3, .int x4] Y V) (bk_Q G (some (.int out.1)) Y out.2) 0 0 (bk_A G) :=
  bk_met (by decide) (Nat.le_of_ble_eq_true rfl) (fun p e s m args below meth c ls C hnm hH hl => w_X5_goneBy C _ _ _ _ _ _ _ _ _ _ hl hH hq)

def rm_X8_refuse : Room := bk_rm 0 0 0 0
set_option maxRecDepth 100000 in
set_option maxHeartbeats 4000000 in
theorem w_X8_refuse (C : bk_C G p s m args meth c cX8_refuse RX8 2 (some FieldType.boolean)) : ∀ (V : bk_Val) (a0 : Nat) (x1 : Int32) (H : Heap) (locs : List Loc) (ls : Array Slot) (out : Int32 × bk_Val), lv_has ls 2 [(0, .ref a0), (1, .int x1)] → bk_H G Y V s.heap H locs → q_X8_refuse N Y V a0 x1 = some out → W p l e rm_X8_refuse s m args below meth c H locs 0 0 (MQ below (bk_Q G (some (.int out.1)) Y out.2) args s 0 0 (bk_A G)) (F0 m 0 ls []) := by
  have hx := C.1
  have hb := C.2.1
  intro V a0 x1 H locs ls out hl hH hq
  unfold q_X8_refuse at hq
  refine lv_aload_n hx hb dX8_refuse_0 rfl (lv_at hl 0 rfl) ?_
  refine lv_iload_n hx hb dX8_refuse_1 rfl (lv_at hl 1 rfl) ?_
  obtain ⟨hs_1, hq⟩ := bk_ck_some hq
  refine bk_puti C hH fp_RX8_33 (fun h => by cases h) hs_1 rfl dX8_refuse_2 (fun V_2 H locs e_3 hH => ?_)
  have hq := bk_let_eq e_3 hq
  refine lv_aload_n hx hb dX8_refuse_5 rfl (lv_at hl 0 rfl) ?_
  refine lv_aload_n hx hb dX8_refuse_6 rfl (lv_at hl 0 rfl) ?_
  obtain ⟨b_4, hr_5, hq⟩ := bk_bd_some hq
  refine bk_getr C hH fl_RX8_14 hs_1 rfl hr_5 dX8_refuse_7 ?_
  obtain ⟨hs_6, hq⟩ := bk_ck_some hq
  refine bk_geti C hH fl_RX8_74 hs_6 rfl dX8_refuse_10 ?_
  refine bk_puti C hH fp_RX8_36 (fun h => by cases h) hs_1 rfl dX8_refuse_13 (fun V_7 H locs e_8 hH => ?_)
  have hq := bk_let_eq e_8 hq
  refine lv_iconst (v := 0) hx hb dX8_refuse_16 (by decide) ?_
  cases hq
  exact bk_zret C hH (Or.inl rfl) dX8_refuse_17
set_option maxRecDepth 100000 in
theorem c_X8_refuse {l : Launch} {G : bk_G} {N : Nat} {Y : bk_Lay} {V : bk_Val} {a0 : Nat} {x1 : Int32} {out : Int32 × bk_Val} (hq : q_X8_refuse N Y V a0 x1 = some out) : Met l yX8_refuse (bk_ws yX8_refuse cX8_refuse 2 (some FieldType.boolean)) rm_X8_refuse (bk_Pc G [.ref a0, .int x1] Y V) (bk_Q G (some (.int out.1)) Y out.2) 0 0 (bk_A G) :=
  bk_met (by decide) (Nat.le_of_ble_eq_true rfl) (fun p e s m args below meth c ls C hnm hH hl => w_X8_refuse C _ _ _ _ _ _ _ hl hH hq)

def rm_X9_kindOf : Room := bk_rm 0 0 0 0
set_option maxRecDepth 100000 in
set_option maxHeartbeats 4000000 in
theorem w_X9_kindOf_28 (C : bk_C G p s m args meth c cX9_kindOf RX9 1 (some FieldType.int)) : ∀ (V : bk_Val) (x0 : Int32) (H : Heap) (locs : List Loc) (ls : Array Slot) (out : Int32), lv_has ls 1 [(0, .int x0)] → bk_H G Y V s.heap H locs → q_X9_kindOf_28 N Y V x0 = some out → W p l e rm_X9_kindOf s m args below meth c H locs 0 0 (MQ below (bk_Q G (some (.int out)) Y V) args s 0 0 (bk_A G)) (F0 m 28 ls []) := by
  have hx := C.1
  have hb := C.2.1
  intro V x0 H locs ls out hl hH hq
  unfold q_X9_kindOf_28 at hq
  refine lv_iload_n hx hb dX9_kindOf_28 rfl (lv_at hl 0 rfl) ?_
  refine lv_topi (fun sw_1 e_2 => ?_)
  have hq := bk_let_eq e_2 hq
  by_cases hc_3 : sw_1 = 40
  · rw [if_pos hc_3] at hq
    refine lv_tableIn (off := 103) (tgt := 132) hx hb dX9_kindOf_29 (by rw [hc_3]; decide) (by rw [hc_3]; decide) (by rw [hc_3]; decide) (by decide) ?_
    refine lv_iconst (v := 3) hx hb dX9_kindOf_132 (by decide) ?_
    cases hq
    exact bk_iret C hH dX9_kindOf_133
  · rw [if_neg hc_3] at hq
    by_cases hc_4 : sw_1 = 41
    · rw [if_pos hc_4] at hq
      refine lv_tableIn (off := 103) (tgt := 132) hx hb dX9_kindOf_29 (by rw [hc_4]; decide) (by rw [hc_4]; decide) (by rw [hc_4]; decide) (by decide) ?_
      refine lv_iconst (v := 3) hx hb dX9_kindOf_132 (by decide) ?_
      cases hq
      exact bk_iret C hH dX9_kindOf_133
    · rw [if_neg hc_4] at hq
      by_cases hc_5 : sw_1 = 42
      · rw [if_pos hc_5] at hq
        refine lv_tableIn (off := 103) (tgt := 132) hx hb dX9_kindOf_29 (by rw [hc_5]; decide) (by rw [hc_5]; decide) (by rw [hc_5]; decide) (by decide) ?_
        refine lv_iconst (v := 3) hx hb dX9_kindOf_132 (by decide) ?_
        cases hq
        exact bk_iret C hH dX9_kindOf_133
      · rw [if_neg hc_5] at hq
        by_cases hc_6 : sw_1 = 43
        · rw [if_pos hc_6] at hq
          refine lv_tableIn (off := 103) (tgt := 132) hx hb dX9_kindOf_29 (by rw [hc_6]; decide) (by rw [hc_6]; decide) (by rw [hc_6]; decide) (by decide) ?_
          refine lv_iconst (v := 3) hx hb dX9_kindOf_132 (by decide) ?_
          cases hq
          exact bk_iret C hH dX9_kindOf_133
        · rw [if_neg hc_6] at hq
          by_cases hc_7 : sw_1 = 45
          · rw [if_pos hc_7] at hq
            refine lv_tableIn (off := 103) (tgt := 132) hx hb dX9_kindOf_29 (by rw [hc_7]; decide) (by rw [hc_7]; decide) (by rw [hc_7]; decide) (by decide) ?_
            refine lv_iconst (v := 3) hx hb dX9_kindOf_132 (by decide) ?_
            cases hq
            exact bk_iret C hH dX9_kindOf_133
          · rw [if_neg hc_7] at hq
            by_cases hc_8 : sw_1 = 47
            · rw [if_pos hc_8] at hq
              refine lv_tableIn (off := 103) (tgt := 132) hx hb dX9_kindOf_29 (by rw [hc_8]; decide) (by rw [hc_8]; decide) (by rw [hc_8]; decide) (by decide) ?_
              refine lv_iconst (v := 3) hx hb dX9_kindOf_132 (by decide) ?_
              cases hq
              exact bk_iret C hH dX9_kindOf_133
            · rw [if_neg hc_8] at hq
              by_cases hc_9 : sw_1 = 59
              · rw [if_pos hc_9] at hq
                refine lv_tableIn (off := 103) (tgt := 132) hx hb dX9_kindOf_29 (by rw [hc_9]; decide) (by rw [hc_9]; decide) (by rw [hc_9]; decide) (by decide) ?_
                refine lv_iconst (v := 3) hx hb dX9_kindOf_132 (by decide) ?_
                cases hq
                exact bk_iret C hH dX9_kindOf_133
              · rw [if_neg hc_9] at hq
                by_cases hc_10 : sw_1 = 60
                · rw [if_pos hc_10] at hq
                  refine lv_tableIn (off := 103) (tgt := 132) hx hb dX9_kindOf_29 (by rw [hc_10]; decide) (by rw [hc_10]; decide) (by rw [hc_10]; decide) (by decide) ?_
                  refine lv_iconst (v := 3) hx hb dX9_kindOf_132 (by decide) ?_
                  cases hq
                  exact bk_iret C hH dX9_kindOf_133
                · rw [if_neg hc_10] at hq
                  by_cases hc_11 : sw_1 = 61
                  · rw [if_pos hc_11] at hq
                    refine lv_tableIn (off := 103) (tgt := 132) hx hb dX9_kindOf_29 (by rw [hc_11]; decide) (by rw [hc_11]; decide) (by rw [hc_11]; decide) (by decide) ?_
                    refine lv_iconst (v := 3) hx hb dX9_kindOf_132 (by decide) ?_
                    cases hq
                    exact bk_iret C hH dX9_kindOf_133
                  · rw [if_neg hc_11] at hq
                    by_cases ho : sw_1.toInt < 40 ∨ 61 < sw_1.toInt
                    · refine lv_tableOut (tgt := 134) hx hb dX9_kindOf_29 ho (by decide) ?_
                      refine lv_iconst (v := 4) hx hb dX9_kindOf_134 (by decide) ?_
                      cases hq
                      exact bk_iret C hH dX9_kindOf_135
                    · have hg : sw_1.toInt = 44 ∨ sw_1.toInt = 46 ∨ sw_1.toInt = 48 ∨ sw_1.toInt = 49 ∨ sw_1.toInt = 50 ∨ sw_1.toInt = 51 ∨ sw_1.toInt = 52 ∨ sw_1.toInt = 53 ∨ sw_1.toInt = 54 ∨ sw_1.toInt = 55 ∨ sw_1.toInt = 56 ∨ sw_1.toInt = 57 ∨ sw_1.toInt = 58 := by have n0 := bk_neI (k := 40) hc_3 (by decide) (by decide); have n1 := bk_neI (k := 41) hc_4 (by decide) (by decide); have n2 := bk_neI (k := 42) hc_5 (by decide) (by decide); have n3 := bk_neI (k := 43) hc_6 (by decide) (by decide); have n4 := bk_neI (k := 45) hc_7 (by decide) (by decide); have n5 := bk_neI (k := 47) hc_8 (by decide) (by decide); have n6 := bk_neI (k := 59) hc_9 (by decide) (by decide); have n7 := bk_neI (k := 60) hc_10 (by decide) (by decide); have n8 := bk_neI (k := 61) hc_11 (by decide) (by decide); omega
                      refine lv_tableIn (off := 105) (tgt := 134) hx hb dX9_kindOf_29 (fun h => ho (Or.inl h)) (fun h => ho (Or.inr h)) (by rcases hg with hg | hg | hg | hg | hg | hg | hg | hg | hg | hg | hg | hg | hg <;> rw [hg] <;> decide) (by decide) ?_
                      refine lv_iconst (v := 4) hx hb dX9_kindOf_134 (by decide) ?_
                      cases hq
                      exact bk_iret C hH dX9_kindOf_135

set_option maxRecDepth 100000 in
set_option maxHeartbeats 4000000 in
theorem w_X9_kindOf_14 (C : bk_C G p s m args meth c cX9_kindOf RX9 1 (some FieldType.int)) : ∀ (V : bk_Val) (x0 : Int32) (H : Heap) (locs : List Loc) (ls : Array Slot) (out : Int32), lv_has ls 1 [(0, .int x0)] → bk_H G Y V s.heap H locs → q_X9_kindOf_14 N Y V x0 = some out → W p l e rm_X9_kindOf s m args below meth c H locs 0 0 (MQ below (bk_Q G (some (.int out)) Y V) args s 0 0 (bk_A G)) (F0 m 14 ls []) := by
  have hx := C.1
  have hb := C.2.1
  intro V x0 H locs ls out hl hH hq
  unfold q_X9_kindOf_14 at hq
  refine lv_iload_n hx hb dX9_kindOf_14 rfl (lv_at hl 0 rfl) ?_
  refine lv_bipush (v := 48) hx hb dX9_kindOf_15 (by decide) ?_
  refine lv_icmp_lt (tgt := 28) hx hb dX9_kindOf_17 (by decide) (fun hc_13 => ?_) (fun hc_13 => ?_)
  · rw [if_pos hc_13] at hq
    exact w_X9_kindOf_28 C _ _ _ _ _ _ (lv_sub hl [0] rfl) hH hq
  · rw [if_neg hc_13] at hq
    refine lv_iload_n hx hb dX9_kindOf_20 rfl (lv_at hl 0 rfl) ?_
    refine lv_bipush (v := 57) hx hb dX9_kindOf_21 (by decide) ?_
    refine lv_icmp_gt (tgt := 28) hx hb dX9_kindOf_23 (by decide) (fun hc_12 => ?_) (fun hc_12 => ?_)
    · rw [if_pos hc_12] at hq
      exact w_X9_kindOf_28 C _ _ _ _ _ _ (lv_sub hl [0] rfl) hH hq
    · rw [if_neg hc_12] at hq
      refine lv_iconst (v := 2) hx hb dX9_kindOf_26 (by decide) ?_
      cases hq
      exact bk_iret C hH dX9_kindOf_27

set_option maxRecDepth 100000 in
set_option maxHeartbeats 4000000 in
theorem w_X9_kindOf (C : bk_C G p s m args meth c cX9_kindOf RX9 1 (some FieldType.int)) : ∀ (V : bk_Val) (x0 : Int32) (H : Heap) (locs : List Loc) (ls : Array Slot) (out : Int32), lv_has ls 1 [(0, .int x0)] → bk_H G Y V s.heap H locs → q_X9_kindOf N Y V x0 = some out → W p l e rm_X9_kindOf s m args below meth c H locs 0 0 (MQ below (bk_Q G (some (.int out)) Y V) args s 0 0 (bk_A G)) (F0 m 0 ls []) := by
  have hx := C.1
  have hb := C.2.1
  intro V x0 H locs ls out hl hH hq
  unfold q_X9_kindOf at hq
  refine lv_iload_n hx hb dX9_kindOf_0 rfl (lv_at hl 0 rfl) ?_
  refine lv_bipush (v := 97) hx hb dX9_kindOf_1 (by decide) ?_
  refine lv_icmp_lt (tgt := 14) hx hb dX9_kindOf_3 (by decide) (fun hc_15 => ?_) (fun hc_15 => ?_)
  · rw [if_pos hc_15] at hq
    exact w_X9_kindOf_14 C _ _ _ _ _ _ (lv_sub hl [0] rfl) hH hq
  · rw [if_neg hc_15] at hq
    refine lv_iload_n hx hb dX9_kindOf_6 rfl (lv_at hl 0 rfl) ?_
    refine lv_bipush (v := 122) hx hb dX9_kindOf_7 (by decide) ?_
    refine lv_icmp_gt (tgt := 14) hx hb dX9_kindOf_9 (by decide) (fun hc_14 => ?_) (fun hc_14 => ?_)
    · rw [if_pos hc_14] at hq
      exact w_X9_kindOf_14 C _ _ _ _ _ _ (lv_sub hl [0] rfl) hH hq
    · rw [if_neg hc_14] at hq
      refine lv_iconst (v := 1) hx hb dX9_kindOf_12 (by decide) ?_
      cases hq
      exact bk_iret C hH dX9_kindOf_13
set_option maxRecDepth 100000 in
theorem c_X9_kindOf {l : Launch} {G : bk_G} {N : Nat} {Y : bk_Lay} {V : bk_Val} {x0 : Int32} {out : Int32} (hq : q_X9_kindOf N Y V x0 = some out) : Met l yX9_kindOf (bk_ws yX9_kindOf cX9_kindOf 1 (some FieldType.int)) rm_X9_kindOf (bk_Pc G [.int x0] Y V) (bk_Q G (some (.int out)) Y V) 0 0 (bk_A G) :=
  bk_met (by decide) (Nat.le_of_ble_eq_true rfl) (fun p e s m args below meth c ls C hnm hH hl => w_X9_kindOf C _ _ _ _ _ _ hl hH hq)

def rm_X9_step : Room := bk_rm 1 0 0 20
set_option maxRecDepth 100000 in
set_option maxHeartbeats 4000000 in
theorem w_X9_step_127 (C : bk_C G p s m args meth c cX9_step RX9 1 (none : Option FieldType)) (k111 : bk_Val → Nat → Option (bk_Val)) (i111 : ∀ (V : bk_Val) (a0 : Nat) (H : Heap) (locs : List Loc) (ls : Array Slot) (out : bk_Val), lv_has ls 1 [(0, .ref a0)] → bk_H G Y V s.heap H locs → k111 V a0 = some out → W p l e rm_X9_step s m args below meth c H locs 0 0 (MQ below (bk_Q G none Y out) args s 0 0 (bk_A G)) (F0 m 111 ls [])) : ∀ (V : bk_Val) (a0 : Nat) (H : Heap) (locs : List Loc) (ls : Array Slot) (out : bk_Val), lv_has ls 1 [(0, .ref a0)] → bk_H G Y V s.heap H locs → q_X9_step_127 N Y k111 V a0 = some out → W p l e rm_X9_step s m args below meth c H locs 0 0 (MQ below (bk_Q G none Y out) args s 0 0 (bk_A G)) (F0 m 127 ls []) := by
  have hx := C.1
  have hb := C.2.1
  intro V a0 H locs ls out hl hH hq
  unfold q_X9_step_127 at hq
  refine lv_aload_n hx hb dX9_step_127 rfl (lv_at hl 0 rfl) ?_
  obtain ⟨hs_1, hq⟩ := bk_ck_some hq
  refine bk_geti C hH fl_RX9_26 hs_1 rfl dX9_step_128 ?_
  refine lv_aload_n hx hb dX9_step_131 rfl (lv_at hl 0 rfl) ?_
  refine bk_geti C hH fl_RX9_22 hs_1 rfl dX9_step_132 ?_
  refine lv_icmp_ge (tgt := 170) hx hb dX9_step_135 (by decide) (fun hc_11 => ?_) (fun hc_11 => ?_)
  · rw [if_pos hc_11] at hq
    cases hq
    exact bk_vret C hH dX9_step_170
  · rw [if_neg hc_11] at hq
    refine lv_aload_n hx hb dX9_step_138 rfl (lv_at hl 0 rfl) ?_
    obtain ⟨b_2, hr_3, hq⟩ := bk_bd_some hq
    refine bk_getr C hH fl_RX9_7 hs_1 rfl hr_3 dX9_step_139 ?_
    refine lv_aload_n hx hb dX9_step_142 rfl (lv_at hl 0 rfl) ?_
    refine bk_geti C hH fl_RX9_26 hs_1 rfl dX9_step_143 ?_
    obtain ⟨ha_4, hq⟩ := bk_ck_some hq
    obtain ⟨hi_5, hq⟩ := bk_ck_some hq
    refine bk_bald C hH (bk_arr ha_4) (bk_in_vp hi_5) dX9_step_146 ?_
    obtain ⟨r_7, hr_6, hq⟩ := bk_bd_some hq
    refine bk_callS (rest := []) (As := [.int (bk_rI V b_2 (bk_rI V a0 2).toNatClampNeg)]) (ro := (some (.int r_7))) (Y1 := Y) (V1 := V) C hH hl.1 (c_X9_kindOf hr_6) mc_X9_kindOf st_X9_kindOf lk_RX9_38 rfl ⟨rfl, rfl⟩ ⟨by decide, by decide⟩ rfl (Nat.le_of_ble_eq_true rfl) dX9_step_147 ⟨by decide, by decide⟩ (fun H locs hH => ?_)
    refine lv_aload_n hx hb dX9_step_150 rfl (lv_at hl 0 rfl) ?_
    refine bk_geti C hH fl_RX9_35 hs_1 rfl dX9_step_151 ?_
    refine lv_icmp_ne (tgt := 170) hx hb dX9_step_154 (by decide) (fun hc_10 => ?_) (fun hc_10 => ?_)
    · rw [if_neg hc_10] at hq
      cases hq
      exact bk_vret C hH dX9_step_170
    · rw [if_pos hc_10] at hq
      refine lv_aload_n hx hb dX9_step_157 rfl (lv_at hl 0 rfl) ?_
      refine lv_dup hx hb dX9_step_158 rfl ?_
      refine bk_geti C hH fl_RX9_26 hs_1 rfl dX9_step_159 ?_
      refine lv_iconst (v := 1) hx hb dX9_step_162 (by decide) ?_
      refine lv_iadd hx hb dX9_step_163 ?_
      refine bk_puti C hH fp_RX9_26 (fun h => by cases h) hs_1 rfl dX9_step_164 (fun V_8 H locs e_9 hH => ?_)
      have hq := bk_let_eq e_9 hq
      refine lv_goto (tgt := 111) hx hb dX9_step_167 (by decide) ?_
      exact i111 _ _ _ _ _ _ (lv_sub hl [0] rfl) hH hq

set_option maxRecDepth 100000 in
set_option maxHeartbeats 4000000 in
theorem w_X9_step_111 (C : bk_C G p s m args meth c cX9_step RX9 1 (none : Option FieldType)) : ∀ (n : Nat), ∀ (V : bk_Val) (a0 : Nat) (H : Heap) (locs : List Loc) (ls : Array Slot) (out : bk_Val), lv_has ls 1 [(0, .ref a0)] → bk_H G Y V s.heap H locs → q_X9_step_111 N Y n V a0 = some out → W p l e rm_X9_step s m args below meth c H locs 0 0 (MQ below (bk_Q G none Y out) args s 0 0 (bk_A G)) (F0 m 111 ls []) := by
  have hx := C.1
  have hb := C.2.1
  intro n
  induction n with
  | zero =>
    intro V a0 H locs ls out hl hH hq
    exact nomatch (show (none : Option (bk_Val)) = some out from hq)
  | succ n ih =>
    intro V a0 H locs ls out hl hH hq
    unfold q_X9_step_111 at hq
    refine lv_aload_n hx hb dX9_step_111 rfl (lv_at hl 0 rfl) ?_
    obtain ⟨hs_12, hq⟩ := bk_ck_some hq
    refine bk_geti C hH fl_RX9_35 hs_12 rfl dX9_step_112 ?_
    refine lv_iconst (v := 1) hx hb dX9_step_115 (by decide) ?_
    refine lv_icmp_eq (tgt := 127) hx hb dX9_step_116 (by decide) (fun hc_14 => ?_) (fun hc_14 => ?_)
    · rw [if_pos hc_14] at hq
      exact w_X9_step_127 C _ ih _ _ _ _ _ _ (lv_sub hl [0] rfl) hH hq
    · rw [if_neg hc_14] at hq
      refine lv_aload_n hx hb dX9_step_119 rfl (lv_at hl 0 rfl) ?_
      refine bk_geti C hH fl_RX9_35 hs_12 rfl dX9_step_120 ?_
      refine lv_iconst (v := 2) hx hb dX9_step_123 (by decide) ?_
      refine lv_icmp_ne (tgt := 170) hx hb dX9_step_124 (by decide) (fun hc_13 => ?_) (fun hc_13 => ?_)
      · rw [if_neg hc_13] at hq
        cases hq
        exact bk_vret C hH dX9_step_170
      · rw [if_pos hc_13] at hq
        exact w_X9_step_127 C _ ih _ _ _ _ _ _ (lv_sub hl [0] rfl) hH hq

set_option maxRecDepth 100000 in
set_option maxHeartbeats 4000000 in
theorem w_X9_step_60 (C : bk_C G p s m args meth c cX9_step RX9 1 (none : Option FieldType)) : ∀ (V : bk_Val) (a0 : Nat) (H : Heap) (locs : List Loc) (ls : Array Slot) (out : bk_Val), lv_has ls 1 [(0, .ref a0)] → bk_H G Y V s.heap H locs → q_X9_step_60 N Y V a0 = some out → W p l e rm_X9_step s m args below meth c H locs 0 0 (MQ below (bk_Q G none Y out) args s 0 0 (bk_A G)) (F0 m 60 ls []) := by
  have hx := C.1
  have hb := C.2.1
  intro V a0 H locs ls out hl hH hq
  unfold q_X9_step_60 at hq
  refine lv_aload_n hx hb dX9_step_60 rfl (lv_at hl 0 rfl) ?_
  refine lv_aload_n hx hb dX9_step_61 rfl (lv_at hl 0 rfl) ?_
  obtain ⟨hs_15, hq⟩ := bk_ck_some hq
  refine bk_geti C hH fl_RX9_32 hs_15 rfl dX9_step_62 ?_
  refine bk_puti C hH fp_RX9_26 (fun h => by cases h) hs_15 rfl dX9_step_65 (fun V_16 H locs e_17 hH => ?_)
  have hq := bk_let_eq e_17 hq
  refine lv_aload_n hx hb dX9_step_68 rfl (lv_at hl 0 rfl) ?_
  refine bk_geti C hH fl_RX9_32 hs_15 rfl dX9_step_69 ?_
  refine lv_aload_n hx hb dX9_step_72 rfl (lv_at hl 0 rfl) ?_
  refine bk_geti C hH fl_RX9_22 hs_15 rfl dX9_step_73 ?_
  refine lv_icmp_lt (tgt := 85) hx hb dX9_step_76 (by decide) (fun hc_30 => ?_) (fun hc_30 => ?_)
  · rw [if_pos hc_30] at hq
    refine lv_aload_n hx hb dX9_step_85 rfl (lv_at hl 0 rfl) ?_
    refine lv_aload_n hx hb dX9_step_86 rfl (lv_at hl 0 rfl) ?_
    obtain ⟨b_18, hr_19, hq⟩ := bk_bd_some hq
    refine bk_getr C hH fl_RX9_7 hs_15 rfl hr_19 dX9_step_87 ?_
    refine lv_aload_n hx hb dX9_step_90 rfl (lv_at hl 0 rfl) ?_
    refine bk_geti C hH fl_RX9_32 hs_15 rfl dX9_step_91 ?_
    obtain ⟨ha_20, hq⟩ := bk_ck_some hq
    obtain ⟨hi_21, hq⟩ := bk_ck_some hq
    refine bk_bald C hH (bk_arr ha_20) (bk_in_vp hi_21) dX9_step_94 ?_
    obtain ⟨r_23, hr_22, hq⟩ := bk_bd_some hq
    refine bk_callS (rest := [.ref a0]) (As := [.int (bk_rI V_16 b_18 (bk_rI V_16 a0 3).toNatClampNeg)]) (ro := (some (.int r_23))) (Y1 := Y) (V1 := V_16) C hH hl.1 (c_X9_kindOf hr_22) mc_X9_kindOf st_X9_kindOf lk_RX9_38 rfl ⟨rfl, rfl⟩ ⟨by decide, by decide⟩ rfl (Nat.le_of_ble_eq_true rfl) dX9_step_95 ⟨by decide, by decide⟩ (fun H locs hH => ?_)
    refine bk_puti C hH fp_RX9_35 (fun h => by cases h) hs_15 rfl dX9_step_98 (fun V_24 H locs e_25 hH => ?_)
    have hq := bk_let_eq e_25 hq
    refine lv_aload_n hx hb dX9_step_101 rfl (lv_at hl 0 rfl) ?_
    refine lv_dup hx hb dX9_step_102 rfl ?_
    refine bk_geti C hH fl_RX9_26 hs_15 rfl dX9_step_103 ?_
    refine lv_iconst (v := 1) hx hb dX9_step_106 (by decide) ?_
    refine lv_iadd hx hb dX9_step_107 ?_
    refine bk_puti C hH fp_RX9_26 (fun h => by cases h) hs_15 rfl dX9_step_108 (fun V_26 H locs e_27 hH => ?_)
    have hq := bk_let_eq e_27 hq
    exact w_X9_step_111 C _ _ _ _ _ _ _ (lv_sub hl [0] rfl) hH hq
  · rw [if_neg hc_30] at hq
    refine lv_aload_n hx hb dX9_step_79 rfl (lv_at hl 0 rfl) ?_
    refine lv_iconst (v := 0) hx hb dX9_step_80 (by decide) ?_
    refine bk_puti C hH fp_RX9_35 (fun h => by cases h) hs_15 rfl dX9_step_81 (fun V_28 H locs e_29 hH => ?_)
    have hq := bk_let_eq e_29 hq
    cases hq
    exact bk_vret C hH dX9_step_84

set_option maxRecDepth 100000 in
set_option maxHeartbeats 4000000 in
theorem w_X9_step_47 (C : bk_C G p s m args meth c cX9_step RX9 1 (none : Option FieldType)) (k8 : bk_Val → Nat → Option (bk_Val)) (i8 : ∀ (V : bk_Val) (a0 : Nat) (H : Heap) (locs : List Loc) (ls : Array Slot) (out : bk_Val), lv_has ls 1 [(0, .ref a0)] → bk_H G Y V s.heap H locs → k8 V a0 = some out → W p l e rm_X9_step s m args below meth c H locs 0 0 (MQ below (bk_Q G none Y out) args s 0 0 (bk_A G)) (F0 m 8 ls [])) : ∀ (V : bk_Val) (a0 : Nat) (H : Heap) (locs : List Loc) (ls : Array Slot) (out : bk_Val), lv_has ls 1 [(0, .ref a0)] → bk_H G Y V s.heap H locs → q_X9_step_47 N Y k8 V a0 = some out → W p l e rm_X9_step s m args below meth c H locs 0 0 (MQ below (bk_Q G none Y out) args s 0 0 (bk_A G)) (F0 m 47 ls []) := by
  have hx := C.1
  have hb := C.2.1
  intro V a0 H locs ls out hl hH hq
  unfold q_X9_step_47 at hq
  refine lv_aload_n hx hb dX9_step_47 rfl (lv_at hl 0 rfl) ?_
  refine lv_dup hx hb dX9_step_48 rfl ?_
  obtain ⟨hs_31, hq⟩ := bk_ck_some hq
  refine bk_geti C hH fl_RX9_32 hs_31 rfl dX9_step_49 ?_
  refine lv_iconst (v := 1) hx hb dX9_step_52 (by decide) ?_
  refine lv_iadd hx hb dX9_step_53 ?_
  refine bk_puti C hH fp_RX9_32 (fun h => by cases h) hs_31 rfl dX9_step_54 (fun V_32 H locs e_33 hH => ?_)
  have hq := bk_let_eq e_33 hq
  refine lv_goto (tgt := 8) hx hb dX9_step_57 (by decide) ?_
  exact i8 _ _ _ _ _ _ (lv_sub hl [0] rfl) hH hq

set_option maxRecDepth 100000 in
set_option maxHeartbeats 4000000 in
theorem w_X9_step_8 (C : bk_C G p s m args meth c cX9_step RX9 1 (none : Option FieldType)) : ∀ (n : Nat), ∀ (V : bk_Val) (a0 : Nat) (H : Heap) (locs : List Loc) (ls : Array Slot) (out : bk_Val), lv_has ls 1 [(0, .ref a0)] → bk_H G Y V s.heap H locs → q_X9_step_8 N Y n V a0 = some out → W p l e rm_X9_step s m args below meth c H locs 0 0 (MQ below (bk_Q G none Y out) args s 0 0 (bk_A G)) (F0 m 8 ls []) := by
  have hx := C.1
  have hb := C.2.1
  intro n
  induction n with
  | zero =>
    intro V a0 H locs ls out hl hH hq
    exact nomatch (show (none : Option (bk_Val)) = some out from hq)
  | succ n ih =>
    intro V a0 H locs ls out hl hH hq
    unfold q_X9_step_8 at hq
    refine lv_aload_n hx hb dX9_step_8 rfl (lv_at hl 0 rfl) ?_
    obtain ⟨hs_34, hq⟩ := bk_ck_some hq
    refine bk_geti C hH fl_RX9_32 hs_34 rfl dX9_step_9 ?_
    refine lv_aload_n hx hb dX9_step_12 rfl (lv_at hl 0 rfl) ?_
    refine bk_geti C hH fl_RX9_22 hs_34 rfl dX9_step_13 ?_
    refine lv_icmp_ge (tgt := 60) hx hb dX9_step_16 (by decide) (fun hc_42 => ?_) (fun hc_42 => ?_)
    · rw [if_pos hc_42] at hq
      exact w_X9_step_60 C _ _ _ _ _ _ (lv_sub hl [0] rfl) hH hq
    · rw [if_neg hc_42] at hq
      refine lv_aload_n hx hb dX9_step_19 rfl (lv_at hl 0 rfl) ?_
      obtain ⟨b_35, hr_36, hq⟩ := bk_bd_some hq
      refine bk_getr C hH fl_RX9_7 hs_34 rfl hr_36 dX9_step_20 ?_
      refine lv_aload_n hx hb dX9_step_23 rfl (lv_at hl 0 rfl) ?_
      refine bk_geti C hH fl_RX9_32 hs_34 rfl dX9_step_24 ?_
      obtain ⟨ha_37, hq⟩ := bk_ck_some hq
      obtain ⟨hi_38, hq⟩ := bk_ck_some hq
      refine bk_bald C hH (bk_arr ha_37) (bk_in_vp hi_38) dX9_step_27 ?_
      refine lv_bipush (v := 32) hx hb dX9_step_28 (by decide) ?_
      refine lv_icmp_eq (tgt := 47) hx hb dX9_step_30 (by decide) (fun hc_41 => ?_) (fun hc_41 => ?_)
      · rw [if_pos hc_41] at hq
        exact w_X9_step_47 C _ ih _ _ _ _ _ _ (lv_sub hl [0] rfl) hH hq
      · rw [if_neg hc_41] at hq
        refine lv_aload_n hx hb dX9_step_33 rfl (lv_at hl 0 rfl) ?_
        refine bk_getr C hH fl_RX9_7 hs_34 rfl hr_36 dX9_step_34 ?_
        refine lv_aload_n hx hb dX9_step_37 rfl (lv_at hl 0 rfl) ?_
        refine bk_geti C hH fl_RX9_32 hs_34 rfl dX9_step_38 ?_
        obtain ⟨hi_39, hq⟩ := bk_ck_some hq
        refine bk_bald C hH (bk_arr ha_37) (bk_in_vp hi_39) dX9_step_41 ?_
        refine lv_bipush (v := 10) hx hb dX9_step_42 (by decide) ?_
        refine lv_icmp_ne (tgt := 60) hx hb dX9_step_44 (by decide) (fun hc_40 => ?_) (fun hc_40 => ?_)
        · rw [if_neg hc_40] at hq
          exact w_X9_step_60 C _ _ _ _ _ _ (lv_sub hl [0] rfl) hH hq
        · rw [if_pos hc_40] at hq
          exact w_X9_step_47 C _ ih _ _ _ _ _ _ (lv_sub hl [0] rfl) hH hq

set_option maxRecDepth 100000 in
set_option maxHeartbeats 4000000 in
theorem w_X9_step (C : bk_C G p s m args meth c cX9_step RX9 1 (none : Option FieldType)) : ∀ (V : bk_Val) (a0 : Nat) (H : Heap) (locs : List Loc) (ls : Array Slot) (out : bk_Val), lv_has ls 1 [(0, .ref a0)] → bk_H G Y V s.heap H locs → q_X9_step N Y V a0 = some out → W p l e rm_X9_step s m args below meth c H locs 0 0 (MQ below (bk_Q G none Y out) args s 0 0 (bk_A G)) (F0 m 0 ls []) := by
  have hx := C.1
  have hb := C.2.1
  intro V a0 H locs ls out hl hH hq
  unfold q_X9_step at hq
  refine lv_aload_n hx hb dX9_step_0 rfl (lv_at hl 0 rfl) ?_
  refine lv_aload_n hx hb dX9_step_1 rfl (lv_at hl 0 rfl) ?_
  obtain ⟨hs_43, hq⟩ := bk_ck_some hq
  refine bk_geti C hH fl_RX9_26 hs_43 rfl dX9_step_2 ?_
  refine bk_puti C hH fp_RX9_32 (fun h => by cases h) hs_43 rfl dX9_step_5 (fun V_44 H locs e_45 hH => ?_)
  have hq := bk_let_eq e_45 hq
  exact w_X9_step_8 C _ _ _ _ _ _ _ (lv_sub hl [0] rfl) hH hq
set_option maxRecDepth 100000 in
theorem c_X9_step {l : Launch} {G : bk_G} {N : Nat} {Y : bk_Lay} {V : bk_Val} {a0 : Nat} {out : bk_Val} (hq : q_X9_step N Y V a0 = some out) : Met l yX9_step (bk_ws yX9_step cX9_step 1 (none : Option FieldType)) rm_X9_step (bk_Pc G [.ref a0] Y V) (bk_Q G none Y out) 0 0 (bk_A G) :=
  bk_met (by decide) (Nat.le_of_ble_eq_true rfl) (fun p e s m args below meth c ls C hnm hH hl => w_X9_step C _ _ _ _ _ _ hl hH hq)

def rm_X9_isWord : Room := bk_rm 5 0 0 150
set_option maxRecDepth 100000 in
set_option maxHeartbeats 4000000 in
theorem w_X9_isWord_28 (C : bk_C G p s m args meth c cX9_isWord RX9 3 (some FieldType.boolean)) : ∀ (n : Nat), ∀ (V : bk_Val) (a0 : Nat) (g1 : Nat) (x2 : Int32) (H : Heap) (locs : List Loc) (ls : Array Slot) (out : Int32), lv_has ls 3 [(0, .ref a0), (1, .ref (G.2.2.2.1 g1)), (2, .int x2)] → bk_H G Y V s.heap H locs → q_X9_isWord_28 N Y n V a0 g1 x2 = some out → W p l e rm_X9_isWord s m args below meth c H locs 0 0 (MQ below (bk_Q G (some (.int out)) Y V) args s 0 0 (bk_A G)) (F0 m 28 ls []) := by
  have hx := C.1
  have hb := C.2.1
  intro n
  induction n with
  | zero =>
    intro V a0 g1 x2 H locs ls out hl hH hq
    exact nomatch (show (none : Option (Int32)) = some out from hq)
  | succ n ih =>
    intro V a0 g1 x2 H locs ls out hl hH hq
    unfold q_X9_isWord_28 at hq
    refine lv_iload_n hx hb dX9_isWord_28 rfl (lv_at hl 2 rfl) ?_
    refine lv_aload_n hx hb dX9_isWord_29 rfl (lv_at hl 1 rfl) ?_
    obtain ⟨hg_1, hq⟩ := bk_ck_some hq
    refine bk_slen (rest := [.int x2]) C hH hl.1 hg_1 sl_len ⟨by decide, by decide⟩ (Nat.le_of_ble_eq_true rfl) dX9_isWord_30 ⟨by decide, by decide⟩ (fun H locs hH => ?_)
    refine lv_icmp_ge (tgt := 63) hx hb dX9_isWord_33 (by decide) (fun hc_9 => ?_) (fun hc_9 => ?_)
    · rw [if_pos hc_9] at hq
      refine lv_iconst (v := 1) hx hb dX9_isWord_63 (by decide) ?_
      cases hq
      exact bk_zret C hH (Or.inr rfl) dX9_isWord_64
    · rw [if_neg hc_9] at hq
      refine lv_aload_n hx hb dX9_isWord_36 rfl (lv_at hl 0 rfl) ?_
      obtain ⟨hs_2, hq⟩ := bk_ck_some hq
      obtain ⟨b_3, hr_4, hq⟩ := bk_bd_some hq
      refine bk_getr C hH fl_RX9_7 hs_2 rfl hr_4 dX9_isWord_37 ?_
      refine lv_aload_n hx hb dX9_isWord_40 rfl (lv_at hl 0 rfl) ?_
      refine bk_geti C hH fl_RX9_32 hs_2 rfl dX9_isWord_41 ?_
      refine lv_iload_n hx hb dX9_isWord_44 rfl (lv_at hl 2 rfl) ?_
      refine lv_iadd hx hb dX9_isWord_45 ?_
      obtain ⟨ha_5, hq⟩ := bk_ck_some hq
      obtain ⟨hi_6, hq⟩ := bk_ck_some hq
      refine bk_bald C hH (bk_arr ha_5) (bk_in_vp hi_6) dX9_isWord_46 ?_
      refine lv_aload_n hx hb dX9_isWord_47 rfl (lv_at hl 1 rfl) ?_
      refine lv_iload_n hx hb dX9_isWord_48 rfl (lv_at hl 2 rfl) ?_
      obtain ⟨hg_7, hq⟩ := bk_ck_some hq
      refine bk_schr (rest := [.int (bk_rI V b_3 ((bk_rI V a0 3) + x2).toNatClampNeg)]) C hH hl.1 hg_7.1 hg_7.2 sl_chr ⟨by decide, by decide⟩ (Nat.le_of_ble_eq_true rfl) dX9_isWord_49 ⟨by decide, by decide⟩ (fun H locs hH => ?_)
      refine lv_icmp_eq (tgt := 57) hx hb dX9_isWord_52 (by decide) (fun hc_8 => ?_) (fun hc_8 => ?_)
      · rw [if_pos hc_8] at hq
        refine lv_iinc (v := (x2 + 1)) (lv' := [(2, .int (x2 + 1)), (0, .ref a0), (1, .ref (G.2.2.2.1 g1))]) hx hb dX9_isWord_57 hl (k := 2) rfl rfl (by decide) rfl (fun ls hl => ?_)
        refine lv_goto (tgt := 28) hx hb dX9_isWord_60 (by decide) ?_
        exact ih _ _ _ _ _ _ _ _ (lv_sub hl [1, 2, 0] rfl) hH hq
      · rw [if_neg hc_8] at hq
        refine lv_iconst (v := 0) hx hb dX9_isWord_55 (by decide) ?_
        cases hq
        exact bk_zret C hH (Or.inl rfl) dX9_isWord_56

set_option maxRecDepth 100000 in
set_option maxHeartbeats 4000000 in
theorem w_X9_isWord (C : bk_C G p s m args meth c cX9_isWord RX9 3 (some FieldType.boolean)) : ∀ (V : bk_Val) (a0 : Nat) (g1 : Nat) (H : Heap) (locs : List Loc) (ls : Array Slot) (out : Int32), lv_has ls 3 [(0, .ref a0), (1, .ref (G.2.2.2.1 g1))] → bk_H G Y V s.heap H locs → q_X9_isWord N Y V a0 g1 = some out → W p l e rm_X9_isWord s m args below meth c H locs 0 0 (MQ below (bk_Q G (some (.int out)) Y V) args s 0 0 (bk_A G)) (F0 m 0 ls []) := by
  have hx := C.1
  have hb := C.2.1
  intro V a0 g1 H locs ls out hl hH hq
  unfold q_X9_isWord at hq
  refine lv_aload_n hx hb dX9_isWord_0 rfl (lv_at hl 0 rfl) ?_
  obtain ⟨hs_10, hq⟩ := bk_ck_some hq
  refine bk_geti C hH fl_RX9_35 hs_10 rfl dX9_isWord_1 ?_
  refine lv_iconst (v := 1) hx hb dX9_isWord_4 (by decide) ?_
  refine lv_icmp_ne (tgt := 24) hx hb dX9_isWord_5 (by decide) (fun hc_13 => ?_) (fun hc_13 => ?_)
  · rw [if_neg hc_13] at hq
    refine lv_iconst (v := 0) hx hb dX9_isWord_24 (by decide) ?_
    cases hq
    exact bk_zret C hH (Or.inl rfl) dX9_isWord_25
  · rw [if_pos hc_13] at hq
    refine lv_aload_n hx hb dX9_isWord_8 rfl (lv_at hl 0 rfl) ?_
    refine bk_geti C hH fl_RX9_26 hs_10 rfl dX9_isWord_9 ?_
    refine lv_aload_n hx hb dX9_isWord_12 rfl (lv_at hl 0 rfl) ?_
    refine bk_geti C hH fl_RX9_32 hs_10 rfl dX9_isWord_13 ?_
    refine lv_isub hx hb dX9_isWord_16 ?_
    refine lv_aload_n hx hb dX9_isWord_17 rfl (lv_at hl 1 rfl) ?_
    obtain ⟨hg_11, hq⟩ := bk_ck_some hq
    refine bk_slen (rest := [.int ((bk_rI V a0 2) - (bk_rI V a0 3))]) C hH hl.1 hg_11 sl_len ⟨by decide, by decide⟩ (Nat.le_of_ble_eq_true rfl) dX9_isWord_18 ⟨by decide, by decide⟩ (fun H locs hH => ?_)
    refine lv_icmp_eq (tgt := 26) hx hb dX9_isWord_21 (by decide) (fun hc_12 => ?_) (fun hc_12 => ?_)
    · rw [if_pos hc_12] at hq
      refine lv_iconst (v := 0) hx hb dX9_isWord_26 (by decide) ?_
      refine lv_istore_n (lv' := [(2, .int 0), (0, .ref a0), (1, .ref (G.2.2.2.1 g1))]) hx hb dX9_isWord_27 rfl hl (by decide) rfl (fun ls hl => ?_)
      exact w_X9_isWord_28 C _ _ _ _ _ _ _ _ _ (lv_sub hl [1, 2, 0] rfl) hH hq
    · rw [if_neg hc_12] at hq
      refine lv_iconst (v := 0) hx hb dX9_isWord_24 (by decide) ?_
      cases hq
      exact bk_zret C hH (Or.inl rfl) dX9_isWord_25
set_option maxRecDepth 100000 in
theorem c_X9_isWord {l : Launch} {G : bk_G} {N : Nat} {Y : bk_Lay} {V : bk_Val} {a0 : Nat} {g1 : Nat} {out : Int32} (hq : q_X9_isWord N Y V a0 g1 = some out) : Met l yX9_isWord (bk_ws yX9_isWord cX9_isWord 3 (some FieldType.boolean)) rm_X9_isWord (bk_Pc G [.ref a0, .ref (G.2.2.2.1 g1)] Y V) (bk_Q G (some (.int out)) Y V) 0 0 (bk_A G) :=
  bk_met (by decide) (Nat.le_of_ble_eq_true rfl) (fun p e s m args below meth c ls C hnm hH hl => w_X9_isWord C _ _ _ _ _ _ _ hl hH hq)

def rm_X8_causeNamed : Room := bk_rm 6 0 0 172
set_option maxRecDepth 100000 in
set_option maxHeartbeats 4000000 in
theorem w_X8_causeNamed (C : bk_C G p s m args meth c cX8_causeNamed RX8 1 (some FieldType.int)) : ∀ (V : bk_Val) (a0 : Nat) (H : Heap) (locs : List Loc) (ls : Array Slot) (out : Int32), lv_has ls 1 [(0, .ref a0)] → bk_H G Y V s.heap H locs → q_X8_causeNamed N Y V a0 = some out → W p l e rm_X8_causeNamed s m args below meth c H locs 0 0 (MQ below (bk_Q G (some (.int out)) Y V) args s 0 0 (bk_A G)) (F0 m 0 ls []) := by
  have hx := C.1
  have hb := C.2.1
  intro V a0 H locs ls out hl hH hq
  unfold q_X8_causeNamed at hq
  refine lv_aload_n hx hb dX8_causeNamed_0 rfl (lv_at hl 0 rfl) ?_
  obtain ⟨hs_1, hq⟩ := bk_ck_some hq
  obtain ⟨b_2, hr_3, hq⟩ := bk_bd_some hq
  refine bk_getr C hH fl_RX8_14 hs_1 rfl hr_3 dX8_causeNamed_1 ?_
  refine bk_ldcS C (i := 28) (tx := "thorn") rfl dX8_causeNamed_4 ?_
  obtain ⟨hs_6, hq⟩ := bk_ck_some hq
  obtain ⟨r_5, hr_4, hq⟩ := bk_bd_some hq
  refine bk_callV (rest := []) (As := [.ref (G.2.2.2.1 28)]) (ro := (some (.int r_5))) (Y1 := Y) (V1 := V) C hH hl.1 (c_X9_isWord hr_4) mc_X9_isWord mv_X9_isWord lk_RX8_45 hs_6 rfl rfl ⟨rfl, rfl⟩ ⟨by decide, by decide⟩ rfl (Nat.le_of_ble_eq_true rfl) dX8_causeNamed_6 ⟨by decide, by decide⟩ (fun H locs hH => ?_)
  refine lv_if_eq (tgt := 14) hx hb dX8_causeNamed_9 (by decide) (fun hc_16 => ?_) (fun hc_16 => ?_)
  · rw [if_pos hc_16] at hq
    refine lv_aload_n hx hb dX8_causeNamed_14 rfl (lv_at hl 0 rfl) ?_
    refine bk_getr C hH fl_RX8_14 hs_1 rfl hr_3 dX8_causeNamed_15 ?_
    refine bk_ldcS C (i := 29) (tx := "kerb") rfl dX8_causeNamed_18 ?_
    obtain ⟨r_8, hr_7, hq⟩ := bk_bd_some hq
    refine bk_callV (rest := []) (As := [.ref (G.2.2.2.1 29)]) (ro := (some (.int r_8))) (Y1 := Y) (V1 := V) C hH hl.1 (c_X9_isWord hr_7) mc_X9_isWord mv_X9_isWord lk_RX8_45 hs_6 rfl rfl ⟨rfl, rfl⟩ ⟨by decide, by decide⟩ rfl (Nat.le_of_ble_eq_true rfl) dX8_causeNamed_20 ⟨by decide, by decide⟩ (fun H locs hH => ?_)
    refine lv_if_eq (tgt := 28) hx hb dX8_causeNamed_23 (by decide) (fun hc_15 => ?_) (fun hc_15 => ?_)
    · rw [if_pos hc_15] at hq
      refine lv_aload_n hx hb dX8_causeNamed_28 rfl (lv_at hl 0 rfl) ?_
      refine bk_getr C hH fl_RX8_14 hs_1 rfl hr_3 dX8_causeNamed_29 ?_
      refine bk_ldcS C (i := 30) (tx := "spoke") rfl dX8_causeNamed_32 ?_
      obtain ⟨r_10, hr_9, hq⟩ := bk_bd_some hq
      refine bk_callV (rest := []) (As := [.ref (G.2.2.2.1 30)]) (ro := (some (.int r_10))) (Y1 := Y) (V1 := V) C hH hl.1 (c_X9_isWord hr_9) mc_X9_isWord mv_X9_isWord lk_RX8_45 hs_6 rfl rfl ⟨rfl, rfl⟩ ⟨by decide, by decide⟩ rfl (Nat.le_of_ble_eq_true rfl) dX8_causeNamed_34 ⟨by decide, by decide⟩ (fun H locs hH => ?_)
      refine lv_if_eq (tgt := 42) hx hb dX8_causeNamed_37 (by decide) (fun hc_14 => ?_) (fun hc_14 => ?_)
      · rw [if_pos hc_14] at hq
        refine lv_aload_n hx hb dX8_causeNamed_42 rfl (lv_at hl 0 rfl) ?_
        refine bk_getr C hH fl_RX8_14 hs_1 rfl hr_3 dX8_causeNamed_43 ?_
        refine bk_ldcS C (i := 31) (tx := "valve") rfl dX8_causeNamed_46 ?_
        obtain ⟨r_12, hr_11, hq⟩ := bk_bd_some hq
        refine bk_callV (rest := []) (As := [.ref (G.2.2.2.1 31)]) (ro := (some (.int r_12))) (Y1 := Y) (V1 := V) C hH hl.1 (c_X9_isWord hr_11) mc_X9_isWord mv_X9_isWord lk_RX8_45 hs_6 rfl rfl ⟨rfl, rfl⟩ ⟨by decide, by decide⟩ rfl (Nat.le_of_ble_eq_true rfl) dX8_causeNamed_48 ⟨by decide, by decide⟩ (fun H locs hH => ?_)
        refine lv_if_eq (tgt := 58) hx hb dX8_causeNamed_51 (by decide) (fun hc_13 => ?_) (fun hc_13 => ?_)
        · rw [if_pos hc_13] at hq
          refine lv_iconst (v := (-1)) hx hb dX8_causeNamed_58 (by decide) ?_
          cases hq
          exact bk_iret C hH dX8_causeNamed_59
        · rw [if_neg hc_13] at hq
          refine lv_iconst (v := 3) hx hb dX8_causeNamed_54 (by decide) ?_
          refine lv_goto (tgt := 59) hx hb dX8_causeNamed_55 (by decide) ?_
          cases hq
          exact bk_iret C hH dX8_causeNamed_59
      · rw [if_neg hc_14] at hq
        refine lv_iconst (v := 2) hx hb dX8_causeNamed_40 (by decide) ?_
        cases hq
        exact bk_iret C hH dX8_causeNamed_41
    · rw [if_neg hc_15] at hq
      refine lv_iconst (v := 1) hx hb dX8_causeNamed_26 (by decide) ?_
      cases hq
      exact bk_iret C hH dX8_causeNamed_27
  · rw [if_neg hc_16] at hq
    refine lv_iconst (v := 0) hx hb dX8_causeNamed_12 (by decide) ?_
    cases hq
    exact bk_iret C hH dX8_causeNamed_13
set_option maxRecDepth 100000 in
theorem c_X8_causeNamed {l : Launch} {G : bk_G} {N : Nat} {Y : bk_Lay} {V : bk_Val} {a0 : Nat} {out : Int32} (hq : q_X8_causeNamed N Y V a0 = some out) : Met l yX8_causeNamed (bk_ws yX8_causeNamed cX8_causeNamed 1 (some FieldType.int)) rm_X8_causeNamed (bk_Pc G [.ref a0] Y V) (bk_Q G (some (.int out)) Y V) 0 0 (bk_A G) :=
  bk_met (by decide) (Nat.le_of_ble_eq_true rfl) (fun p e s m args below meth c ls C hnm hH hl => w_X8_causeNamed C _ _ _ _ _ _ hl hH hq)

def rm_X8_readOnce : Room := bk_rm 2 0 0 40
set_option maxRecDepth 100000 in
set_option maxHeartbeats 4000000 in
theorem w_X8_readOnce (C : bk_C G p s m args meth c cX8_readOnce RX8 2 (some FieldType.boolean)) : ∀ (V : bk_Val) (a0 : Nat) (x1 : Int32) (H : Heap) (locs : List Loc) (ls : Array Slot) (out : Int32 × bk_Val), lv_has ls 2 [(0, .ref a0), (1, .int x1)] → bk_H G Y V s.heap H locs → q_X8_readOnce N Y V a0 x1 = some out → W p l e rm_X8_readOnce s m args below meth c H locs 0 0 (MQ below (bk_Q G (some (.int out.1)) Y out.2) args s 0 0 (bk_A G)) (F0 m 0 ls []) := by
  have hx := C.1
  have hb := C.2.1
  intro V a0 x1 H locs ls out hl hH hq
  unfold q_X8_readOnce at hq
  refine lv_aload_n hx hb dX8_readOnce_0 rfl (lv_at hl 0 rfl) ?_
  obtain ⟨hs_1, hq⟩ := bk_ck_some hq
  refine bk_geti C hH fl_RX8_29 hs_1 rfl dX8_readOnce_1 ?_
  refine lv_iload_n hx hb dX8_readOnce_4 rfl (lv_at hl 1 rfl) ?_
  refine bk_ishr hx hb dX8_readOnce_5 ?_
  refine lv_iconst (v := 1) hx hb dX8_readOnce_6 (by decide) ?_
  refine lv_iand hx hb dX8_readOnce_7 ?_
  refine lv_iconst (v := 1) hx hb dX8_readOnce_8 (by decide) ?_
  refine lv_icmp_ne (tgt := 18) hx hb dX8_readOnce_9 (by decide) (fun hc_12 => ?_) (fun hc_12 => ?_)
  · rw [if_neg hc_12] at hq
    refine lv_aload_n hx hb dX8_readOnce_18 rfl (lv_at hl 0 rfl) ?_
    refine lv_dup hx hb dX8_readOnce_19 rfl ?_
    refine bk_geti C hH fl_RX8_29 hs_1 rfl dX8_readOnce_20 ?_
    refine lv_iconst (v := 1) hx hb dX8_readOnce_23 (by decide) ?_
    refine lv_iload_n hx hb dX8_readOnce_24 rfl (lv_at hl 1 rfl) ?_
    refine bk_ishl hx hb dX8_readOnce_25 ?_
    refine lv_ior hx hb dX8_readOnce_26 ?_
    refine bk_puti C hH fp_RX8_29 (fun h => by cases h) hs_1 rfl dX8_readOnce_27 (fun V_2 H locs e_3 hH => ?_)
    have hq := bk_let_eq e_3 hq
    refine lv_aload_n hx hb dX8_readOnce_30 rfl (lv_at hl 0 rfl) ?_
    obtain ⟨b_4, hr_5, hq⟩ := bk_bd_some hq
    refine bk_getr C hH fl_RX8_14 hs_1 rfl hr_5 dX8_readOnce_31 ?_
    obtain ⟨hs_8, hq⟩ := bk_ck_some hq
    obtain ⟨V_7, hr_6, hq⟩ := bk_bd_some hq
    refine bk_callV (rest := []) (As := []) (ro := none) (Y1 := Y) (V1 := V_7) C hH hl.1 (c_X9_step hr_6) mc_X9_step mv_X9_step lk_RX8_49 hs_8 rfl rfl ⟨rfl, rfl⟩ ⟨by decide, by decide⟩ rfl (Nat.le_of_ble_eq_true rfl) dX8_readOnce_34 ⟨by decide, by decide⟩ (fun H locs hH => ?_)
    refine lv_iconst (v := 1) hx hb dX8_readOnce_37 (by decide) ?_
    cases hq
    exact bk_zret C hH (Or.inr rfl) dX8_readOnce_38
  · rw [if_pos hc_12] at hq
    refine lv_aload_n hx hb dX8_readOnce_12 rfl (lv_at hl 0 rfl) ?_
    refine lv_iconst (v := 5) hx hb dX8_readOnce_13 (by decide) ?_
    obtain ⟨r_10, V_11, hr_9, hq⟩ := bk_bd2_some hq
    refine bk_callV (rest := []) (As := [.int 5]) (ro := (some (.int r_10))) (Y1 := Y) (V1 := V_11) C hH hl.1 (c_X8_refuse hr_9) mc_X8_refuse mv_X8_refuse lk_RX8_71 hs_1 rfl rfl ⟨rfl, rfl⟩ ⟨by decide, by decide⟩ rfl (Nat.le_of_ble_eq_true rfl) dX8_readOnce_14 ⟨by decide, by decide⟩ (fun H locs hH => ?_)
    obtain ⟨hz9, hq⟩ := bk_ck_some hq
    cases hq
    exact bk_zret C hH hz9 dX8_readOnce_17
set_option maxRecDepth 100000 in
theorem c_X8_readOnce {l : Launch} {G : bk_G} {N : Nat} {Y : bk_Lay} {V : bk_Val} {a0 : Nat} {x1 : Int32} {out : Int32 × bk_Val} (hq : q_X8_readOnce N Y V a0 x1 = some out) : Met l yX8_readOnce (bk_ws yX8_readOnce cX8_readOnce 2 (some FieldType.boolean)) rm_X8_readOnce (bk_Pc G [.ref a0, .int x1] Y V) (bk_Q G (some (.int out.1)) Y out.2) 0 0 (bk_A G) :=
  bk_met (by decide) (Nat.le_of_ble_eq_true rfl) (fun p e s m args below meth c ls C hnm hH hl => w_X8_readOnce C _ _ _ _ _ _ _ hl hH hq)

def rm_X9_isShort : Room := bk_rm 0 0 0 0
set_option maxRecDepth 100000 in
set_option maxHeartbeats 4000000 in
theorem w_X9_isShort (C : bk_C G p s m args meth c cX9_isShort RX9 1 (some FieldType.boolean)) : ∀ (V : bk_Val) (a0 : Nat) (H : Heap) (locs : List Loc) (ls : Array Slot) (out : Int32), lv_has ls 1 [(0, .ref a0)] → bk_H G Y V s.heap H locs → q_X9_isShort N Y V a0 = some out → W p l e rm_X9_isShort s m args below meth c H locs 0 0 (MQ below (bk_Q G (some (.int out)) Y V) args s 0 0 (bk_A G)) (F0 m 0 ls []) := by
  have hx := C.1
  have hb := C.2.1
  intro V a0 H locs ls out hl hH hq
  unfold q_X9_isShort at hq
  refine lv_aload_n hx hb dX9_isShort_0 rfl (lv_at hl 0 rfl) ?_
  obtain ⟨hs_1, hq⟩ := bk_ck_some hq
  refine bk_geti C hH fl_RX9_26 hs_1 rfl dX9_isShort_1 ?_
  refine lv_aload_n hx hb dX9_isShort_4 rfl (lv_at hl 0 rfl) ?_
  refine bk_geti C hH fl_RX9_32 hs_1 rfl dX9_isShort_5 ?_
  refine lv_isub hx hb dX9_isShort_8 ?_
  refine lv_iconst (v := 4) hx hb dX9_isShort_9 (by decide) ?_
  refine lv_icmp_gt (tgt := 17) hx hb dX9_isShort_10 (by decide) (fun hc_2 => ?_) (fun hc_2 => ?_)
  · rw [if_pos hc_2] at hq
    refine lv_iconst (v := 0) hx hb dX9_isShort_17 (by decide) ?_
    cases hq
    exact bk_zret C hH (Or.inl rfl) dX9_isShort_18
  · rw [if_neg hc_2] at hq
    refine lv_iconst (v := 1) hx hb dX9_isShort_13 (by decide) ?_
    refine lv_goto (tgt := 18) hx hb dX9_isShort_14 (by decide) ?_
    cases hq
    exact bk_zret C hH (Or.inr rfl) dX9_isShort_18
set_option maxRecDepth 100000 in
theorem c_X9_isShort {l : Launch} {G : bk_G} {N : Nat} {Y : bk_Lay} {V : bk_Val} {a0 : Nat} {out : Int32} (hq : q_X9_isShort N Y V a0 = some out) : Met l yX9_isShort (bk_ws yX9_isShort cX9_isShort 1 (some FieldType.boolean)) rm_X9_isShort (bk_Pc G [.ref a0] Y V) (bk_Q G (some (.int out)) Y V) 0 0 (bk_A G) :=
  bk_met (by decide) (Nat.le_of_ble_eq_true rfl) (fun p e s m args below meth c ls C hnm hH hl => w_X9_isShort C _ _ _ _ _ _ hl hH hq)

def rm_X9_number : Room := bk_rm 0 0 0 0
set_option maxRecDepth 100000 in
set_option maxHeartbeats 4000000 in
theorem w_X9_number_7 (C : bk_C G p s m args meth c cX9_number RX9 3 (some FieldType.int)) : ∀ (n : Nat), ∀ (V : bk_Val) (a0 : Nat) (x1 : Int32) (x2 : Int32) (H : Heap) (locs : List Loc) (ls : Array Slot) (out : Int32), lv_has ls 3 [(0, .ref a0), (1, .int x1), (2, .int x2)] → bk_H G Y V s.heap H locs → q_X9_number_7 N Y n V a0 x1 x2 = some out → W p l e rm_X9_number s m args below meth c H locs 0 0 (MQ below (bk_Q G (some (.int out)) Y V) args s 0 0 (bk_A G)) (F0 m 7 ls []) := by
  have hx := C.1
  have hb := C.2.1
  intro n
  induction n with
  | zero =>
    intro V a0 x1 x2 H locs ls out hl hH hq
    exact nomatch (show (none : Option (Int32)) = some out from hq)
  | succ n ih =>
    intro V a0 x1 x2 H locs ls out hl hH hq
    unfold q_X9_number_7 at hq
    refine lv_iload_n hx hb dX9_number_7 rfl (lv_at hl 2 rfl) ?_
    refine lv_aload_n hx hb dX9_number_8 rfl (lv_at hl 0 rfl) ?_
    obtain ⟨hs_1, hq⟩ := bk_ck_some hq
    refine bk_geti C hH fl_RX9_26 hs_1 rfl dX9_number_9 ?_
    refine lv_icmp_ge (tgt := 46) hx hb dX9_number_12 (by decide) (fun hc_9 => ?_) (fun hc_9 => ?_)
    · rw [if_pos hc_9] at hq
      refine lv_iload_n hx hb dX9_number_46 rfl (lv_at hl 1 rfl) ?_
      cases hq
      exact bk_iret C hH dX9_number_47
    · rw [if_neg hc_9] at hq
      refine lv_iload_n hx hb dX9_number_15 rfl (lv_at hl 2 rfl) ?_
      refine lv_aload_n hx hb dX9_number_16 rfl (lv_at hl 0 rfl) ?_
      refine bk_geti C hH fl_RX9_32 hs_1 rfl dX9_number_17 ?_
      refine lv_iconst (v := 4) hx hb dX9_number_20 (by decide) ?_
      refine lv_iadd hx hb dX9_number_21 ?_
      refine lv_icmp_ge (tgt := 46) hx hb dX9_number_22 (by decide) (fun hc_8 => ?_) (fun hc_8 => ?_)
      · rw [if_pos hc_8] at hq
        refine lv_iload_n hx hb dX9_number_46 rfl (lv_at hl 1 rfl) ?_
        cases hq
        exact bk_iret C hH dX9_number_47
      · rw [if_neg hc_8] at hq
        refine lv_bipush (v := 10) hx hb dX9_number_25 (by decide) ?_
        refine lv_iload_n hx hb dX9_number_27 rfl (lv_at hl 1 rfl) ?_
        refine lv_imul hx hb dX9_number_28 ?_
        refine lv_aload_n hx hb dX9_number_29 rfl (lv_at hl 0 rfl) ?_
        obtain ⟨b_2, hr_3, hq⟩ := bk_bd_some hq
        refine bk_getr C hH fl_RX9_7 hs_1 rfl hr_3 dX9_number_30 ?_
        refine lv_iload_n hx hb dX9_number_33 rfl (lv_at hl 2 rfl) ?_
        obtain ⟨ha_4, hq⟩ := bk_ck_some hq
        obtain ⟨hi_5, hq⟩ := bk_ck_some hq
        refine bk_bald C hH (bk_arr ha_4) (bk_in_vp hi_5) dX9_number_34 ?_
        refine lv_iadd hx hb dX9_number_35 ?_
        refine lv_bipush (v := 48) hx hb dX9_number_36 (by decide) ?_
        refine lv_isub hx hb dX9_number_38 ?_
        refine lv_topi (fun x1_6 e_7 => ?_)
        have hq := bk_let_eq e_7 hq
        refine lv_istore_n (lv' := [(1, .int x1_6), (0, .ref a0), (2, .int x2)]) hx hb dX9_number_39 rfl hl (by decide) rfl (fun ls hl => ?_)
        refine lv_iinc (v := (x2 + 1)) (lv' := [(2, .int (x2 + 1)), (1, .int x1_6), (0, .ref a0)]) hx hb dX9_number_40 hl (k := 2) rfl rfl (by decide) rfl (fun ls hl => ?_)
        refine lv_goto (tgt := 7) hx hb dX9_number_43 (by decide) ?_
        exact ih _ _ _ _ _ _ _ _ (lv_sub hl [2, 1, 0] rfl) hH hq

set_option maxRecDepth 100000 in
set_option maxHeartbeats 4000000 in
theorem w_X9_number (C : bk_C G p s m args meth c cX9_number RX9 3 (some FieldType.int)) : ∀ (V : bk_Val) (a0 : Nat) (H : Heap) (locs : List Loc) (ls : Array Slot) (out : Int32), lv_has ls 3 [(0, .ref a0)] → bk_H G Y V s.heap H locs → q_X9_number N Y V a0 = some out → W p l e rm_X9_number s m args below meth c H locs 0 0 (MQ below (bk_Q G (some (.int out)) Y V) args s 0 0 (bk_A G)) (F0 m 0 ls []) := by
  have hx := C.1
  have hb := C.2.1
  intro V a0 H locs ls out hl hH hq
  unfold q_X9_number at hq
  refine lv_iconst (v := 0) hx hb dX9_number_0 (by decide) ?_
  refine lv_istore_n (lv' := [(1, .int 0), (0, .ref a0)]) hx hb dX9_number_1 rfl hl (by decide) rfl (fun ls hl => ?_)
  refine lv_aload_n hx hb dX9_number_2 rfl (lv_at hl 1 rfl) ?_
  obtain ⟨hs_10, hq⟩ := bk_ck_some hq
  refine bk_geti C hH fl_RX9_32 hs_10 rfl dX9_number_3 ?_
  refine lv_istore_n (lv' := [(2, .int (bk_rI V a0 3)), (1, .int 0), (0, .ref a0)]) hx hb dX9_number_6 rfl hl (by decide) rfl (fun ls hl => ?_)
  exact w_X9_number_7 C _ _ _ _ _ _ _ _ _ (lv_sub hl [2, 1, 0] rfl) hH hq
set_option maxRecDepth 100000 in
theorem c_X9_number {l : Launch} {G : bk_G} {N : Nat} {Y : bk_Lay} {V : bk_Val} {a0 : Nat} {out : Int32} (hq : q_X9_number N Y V a0 = some out) : Met l yX9_number (bk_ws yX9_number cX9_number 3 (some FieldType.int)) rm_X9_number (bk_Pc G [.ref a0] Y V) (bk_Q G (some (.int out)) Y V) 0 0 (bk_A G) :=
  bk_met (by decide) (Nat.le_of_ble_eq_true rfl) (fun p e s m args below meth c ls C hnm hH hl => w_X9_number C _ _ _ _ _ _ hl hH hq)

def rm_X8_readNumber : Room := bk_rm 2 0 0 40
set_option maxRecDepth 100000 in
set_option maxHeartbeats 4000000 in
theorem w_X8_readNumber_42 (C : bk_C G p s m args meth c cX8_readNumber RX8 3 (some FieldType.boolean)) : ∀ (V : bk_Val) (a0 : Nat) (H : Heap) (locs : List Loc) (ls : Array Slot) (out : Int32 × bk_Val), lv_has ls 3 [(0, .ref a0)] → bk_H G Y V s.heap H locs → q_X8_readNumber_42 N Y V a0 = some out → W p l e rm_X8_readNumber s m args below meth c H locs 0 0 (MQ below (bk_Q G (some (.int out.1)) Y out.2) args s 0 0 (bk_A G)) (F0 m 42 ls []) := by
  have hx := C.1
  have hb := C.2.1
  intro V a0 H locs ls out hl hH hq
  unfold q_X8_readNumber_42 at hq
  refine lv_aload_n hx hb dX8_readNumber_42 rfl (lv_at hl 0 rfl) ?_
  refine lv_iconst (v := 2) hx hb dX8_readNumber_43 (by decide) ?_
  obtain ⟨hs_4, hq⟩ := bk_ck_some hq
  obtain ⟨r_2, V_3, hr_1, hq⟩ := bk_bd2_some hq
  refine bk_callV (rest := []) (As := [.int 2]) (ro := (some (.int r_2))) (Y1 := Y) (V1 := V_3) C hH hl.1 (c_X8_refuse hr_1) mc_X8_refuse mv_X8_refuse lk_RX8_71 hs_4 rfl rfl ⟨rfl, rfl⟩ ⟨by decide, by decide⟩ rfl (Nat.le_of_ble_eq_true rfl) dX8_readNumber_44 ⟨by decide, by decide⟩ (fun H locs hH => ?_)
  obtain ⟨hz9, hq⟩ := bk_ck_some hq
  cases hq
  exact bk_zret C hH hz9 dX8_readNumber_47

set_option maxRecDepth 100000 in
set_option maxHeartbeats 4000000 in
theorem w_X8_readNumber (C : bk_C G p s m args meth c cX8_readNumber RX8 3 (some FieldType.boolean)) : ∀ (V : bk_Val) (a0 : Nat) (x1 : Int32) (x2 : Int32) (H : Heap) (locs : List Loc) (ls : Array Slot) (out : Int32 × bk_Val), lv_has ls 3 [(0, .ref a0), (1, .int x1), (2, .int x2)] → bk_H G Y V s.heap H locs → q_X8_readNumber N Y V a0 x1 x2 = some out → W p l e rm_X8_readNumber s m args below meth c H locs 0 0 (MQ below (bk_Q G (some (.int out.1)) Y out.2) args s 0 0 (bk_A G)) (F0 m 0 ls []) := by
  have hx := C.1
  have hb := C.2.1
  intro V a0 x1 x2 H locs ls out hl hH hq
  unfold q_X8_readNumber at hq
  refine lv_aload_n hx hb dX8_readNumber_0 rfl (lv_at hl 0 rfl) ?_
  obtain ⟨hs_5, hq⟩ := bk_ck_some hq
  obtain ⟨b_6, hr_7, hq⟩ := bk_bd_some hq
  refine bk_getr C hH fl_RX8_14 hs_5 rfl hr_7 dX8_readNumber_1 ?_
  obtain ⟨hs_8, hq⟩ := bk_ck_some hq
  refine bk_geti C hH fl_RX8_60 hs_8 rfl dX8_readNumber_4 ?_
  refine lv_iconst (v := 2) hx hb dX8_readNumber_7 (by decide) ?_
  refine lv_icmp_eq (tgt := 17) hx hb dX8_readNumber_8 (by decide) (fun hc_26 => ?_) (fun hc_26 => ?_)
  · rw [if_pos hc_26] at hq
    refine lv_aload_n hx hb dX8_readNumber_17 rfl (lv_at hl 0 rfl) ?_
    refine bk_getr C hH fl_RX8_14 hs_5 rfl hr_7 dX8_readNumber_18 ?_
    obtain ⟨r_10, hr_9, hq⟩ := bk_bd_some hq
    refine bk_callV (rest := []) (As := []) (ro := (some (.int r_10))) (Y1 := Y) (V1 := V) C hH hl.1 (c_X9_isShort hr_9) mc_X9_isShort mv_X9_isShort lk_RX8_212 hs_8 rfl rfl ⟨rfl, rfl⟩ ⟨by decide, by decide⟩ rfl (Nat.le_of_ble_eq_true rfl) dX8_readNumber_21 ⟨by decide, by decide⟩ (fun H locs hH => ?_)
    refine lv_if_eq (tgt := 42) hx hb dX8_readNumber_24 (by decide) (fun hc_22 => ?_) (fun hc_22 => ?_)
    · rw [if_pos hc_22] at hq
      exact w_X8_readNumber_42 C _ _ _ _ _ _ (lv_sub hl [0] rfl) hH hq
    · rw [if_neg hc_22] at hq
      refine lv_aload_n hx hb dX8_readNumber_27 rfl (lv_at hl 0 rfl) ?_
      refine bk_getr C hH fl_RX8_14 hs_5 rfl hr_7 dX8_readNumber_28 ?_
      obtain ⟨r_12, hr_11, hq⟩ := bk_bd_some hq
      refine bk_callV (rest := []) (As := []) (ro := (some (.int r_12))) (Y1 := Y) (V1 := V) C hH hl.1 (c_X9_number hr_11) mc_X9_number mv_X9_number lk_RX8_215 hs_8 rfl rfl ⟨rfl, rfl⟩ ⟨by decide, by decide⟩ rfl (Nat.le_of_ble_eq_true rfl) dX8_readNumber_31 ⟨by decide, by decide⟩ (fun H locs hH => ?_)
      refine lv_iload_n hx hb dX8_readNumber_34 rfl (lv_at hl 1 rfl) ?_
      refine lv_iload_n hx hb dX8_readNumber_35 rfl (lv_at hl 2 rfl) ?_
      obtain ⟨r_14, hr_13, hq⟩ := bk_bd_some hq
      refine bk_callS (rest := []) (As := [.int r_12, .int x1, .int x2]) (ro := (some (.int r_14))) (Y1 := Y) (V1 := V) C hH hl.1 (c_X11_isWithin hr_13) mc_X11_isWithin st_X11_isWithin lk_RX8_218 rfl ⟨rfl, rfl⟩ ⟨by decide, by decide⟩ rfl (Nat.le_of_ble_eq_true rfl) dX8_readNumber_36 ⟨by decide, by decide⟩ (fun H locs hH => ?_)
      refine lv_if_ne (tgt := 48) hx hb dX8_readNumber_39 (by decide) (fun hc_21 => ?_) (fun hc_21 => ?_)
      · rw [if_neg hc_21] at hq
        refine lv_aload_n hx hb dX8_readNumber_48 rfl (lv_at hl 0 rfl) ?_
        refine lv_aload_n hx hb dX8_readNumber_49 rfl (lv_at hl 0 rfl) ?_
        refine bk_getr C hH fl_RX8_14 hs_5 rfl hr_7 dX8_readNumber_50 ?_
        obtain ⟨r_16, hr_15, hq⟩ := bk_bd_some hq
        refine bk_callV (rest := [.ref a0]) (As := []) (ro := (some (.int r_16))) (Y1 := Y) (V1 := V) C hH hl.1 (c_X9_number hr_15) mc_X9_number mv_X9_number lk_RX8_215 hs_8 rfl rfl ⟨rfl, rfl⟩ ⟨by decide, by decide⟩ rfl (Nat.le_of_ble_eq_true rfl) dX8_readNumber_53 ⟨by decide, by decide⟩ (fun H locs hH => ?_)
        refine bk_puti C hH fp_RX8_147 (fun h => by cases h) hs_5 rfl dX8_readNumber_56 (fun V_17 H locs e_18 hH => ?_)
        have hq := bk_let_eq e_18 hq
        refine lv_aload_n hx hb dX8_readNumber_59 rfl (lv_at hl 0 rfl) ?_
        refine bk_getr C hH fl_RX8_14 hs_5 rfl hr_7 dX8_readNumber_60 ?_
        obtain ⟨V_20, hr_19, hq⟩ := bk_bd_some hq
        refine bk_callV (rest := []) (As := []) (ro := none) (Y1 := Y) (V1 := V_20) C hH hl.1 (c_X9_step hr_19) mc_X9_step mv_X9_step lk_RX8_49 hs_8 rfl rfl ⟨rfl, rfl⟩ ⟨by decide, by decide⟩ rfl (Nat.le_of_ble_eq_true rfl) dX8_readNumber_63 ⟨by decide, by decide⟩ (fun H locs hH => ?_)
        refine lv_iconst (v := 1) hx hb dX8_readNumber_66 (by decide) ?_
        cases hq
        exact bk_zret C hH (Or.inr rfl) dX8_readNumber_67
      · rw [if_pos hc_21] at hq
        exact w_X8_readNumber_42 C _ _ _ _ _ _ (lv_sub hl [0] rfl) hH hq
  · rw [if_neg hc_26] at hq
    refine lv_aload_n hx hb dX8_readNumber_11 rfl (lv_at hl 0 rfl) ?_
    refine lv_iconst (v := 1) hx hb dX8_readNumber_12 (by decide) ?_
    obtain ⟨r_24, V_25, hr_23, hq⟩ := bk_bd2_some hq
    refine bk_callV (rest := []) (As := [.int 1]) (ro := (some (.int r_24))) (Y1 := Y) (V1 := V_25) C hH hl.1 (c_X8_refuse hr_23) mc_X8_refuse mv_X8_refuse lk_RX8_71 hs_5 rfl rfl ⟨rfl, rfl⟩ ⟨by decide, by decide⟩ rfl (Nat.le_of_ble_eq_true rfl) dX8_readNumber_13 ⟨by decide, by decide⟩ (fun H locs hH => ?_)
    obtain ⟨hz9, hq⟩ := bk_ck_some hq
    cases hq
    exact bk_zret C hH hz9 dX8_readNumber_16
set_option maxRecDepth 100000 in
theorem c_X8_readNumber {l : Launch} {G : bk_G} {N : Nat} {Y : bk_Lay} {V : bk_Val} {a0 : Nat} {x1 : Int32} {x2 : Int32} {out : Int32 × bk_Val} (hq : q_X8_readNumber N Y V a0 x1 x2 = some out) : Met l yX8_readNumber (bk_ws yX8_readNumber cX8_readNumber 3 (some FieldType.boolean)) rm_X8_readNumber (bk_Pc G [.ref a0, .int x1, .int x2] Y V) (bk_Q G (some (.int out.1)) Y out.2) 0 0 (bk_A G) :=
  bk_met (by decide) (Nat.le_of_ble_eq_true rfl) (fun p e s m args below meth c ls C hnm hH hl => w_X8_readNumber C _ _ _ _ _ _ _ _ hl hH hq)

def rm_X8_readCause : Room := bk_rm 7 0 0 192
set_option maxRecDepth 100000 in
set_option maxHeartbeats 4000000 in
theorem w_X8_readCause (C : bk_C G p s m args meth c cX8_readCause RX8 2 (some FieldType.boolean)) : ∀ (V : bk_Val) (a0 : Nat) (H : Heap) (locs : List Loc) (ls : Array Slot) (out : Int32 × bk_Val), lv_has ls 2 [(0, .ref a0)] → bk_H G Y V s.heap H locs → q_X8_readCause N Y V a0 = some out → W p l e rm_X8_readCause s m args below meth c H locs 0 0 (MQ below (bk_Q G (some (.int out.1)) Y out.2) args s 0 0 (bk_A G)) (F0 m 0 ls []) := by
  have hx := C.1
  have hb := C.2.1
  intro V a0 H locs ls out hl hH hq
  unfold q_X8_readCause at hq
  refine lv_aload_n hx hb dX8_readCause_0 rfl (lv_at hl 0 rfl) ?_
  obtain ⟨hs_1, hq⟩ := bk_ck_some hq
  obtain ⟨b_2, hr_3, hq⟩ := bk_bd_some hq
  refine bk_getr C hH fl_RX8_14 hs_1 rfl hr_3 dX8_readCause_1 ?_
  obtain ⟨hs_6, hq⟩ := bk_ck_some hq
  obtain ⟨V_5, hr_4, hq⟩ := bk_bd_some hq
  refine bk_callV (rest := []) (As := []) (ro := none) (Y1 := Y) (V1 := V_5) C hH hl.1 (c_X9_step hr_4) mc_X9_step mv_X9_step lk_RX8_49 hs_6 rfl rfl ⟨rfl, rfl⟩ ⟨by decide, by decide⟩ rfl (Nat.le_of_ble_eq_true rfl) dX8_readCause_4 ⟨by decide, by decide⟩ (fun H locs hH => ?_)
  refine lv_aload_n hx hb dX8_readCause_7 rfl (lv_at hl 0 rfl) ?_
  obtain ⟨r_8, hr_7, hq⟩ := bk_bd_some hq
  refine bk_callV (rest := []) (As := []) (ro := (some (.int r_8))) (Y1 := Y) (V1 := V_5) C hH hl.1 (c_X8_causeNamed hr_7) mc_X8_causeNamed mv_X8_causeNamed lk_RX8_179 hs_1 rfl rfl ⟨rfl, rfl⟩ ⟨by decide, by decide⟩ rfl (Nat.le_of_ble_eq_true rfl) dX8_readCause_8 ⟨by decide, by decide⟩ (fun H locs hH => ?_)
  refine lv_istore_n (lv' := [(1, .int r_8), (0, .ref a0)]) hx hb dX8_readCause_11 rfl hl (by decide) rfl (fun ls hl => ?_)
  refine lv_iload_n hx hb dX8_readCause_12 rfl (lv_at hl 0 rfl) ?_
  refine lv_iconst (v := (-1)) hx hb dX8_readCause_13 (by decide) ?_
  refine lv_icmp_ne (tgt := 23) hx hb dX8_readCause_14 (by decide) (fun hc_29 => ?_) (fun hc_29 => ?_)
  · rw [if_neg hc_29] at hq
    refine lv_aload_n hx hb dX8_readCause_23 rfl (lv_at hl 1 rfl) ?_
    refine lv_bipush (v := 10) hx hb dX8_readCause_24 (by decide) ?_
    refine lv_iload_n hx hb dX8_readCause_26 rfl (lv_at hl 0 rfl) ?_
    refine lv_iadd hx hb dX8_readCause_27 ?_
    obtain ⟨r_10, V_11, hr_9, hq⟩ := bk_bd2_some hq
    refine bk_callV (rest := []) (As := [.int (10 + r_8)]) (ro := (some (.int r_10))) (Y1 := Y) (V1 := V_11) C hH hl.1 (c_X8_readOnce hr_9) mc_X8_readOnce mv_X8_readOnce lk_RX8_81 hs_1 rfl rfl ⟨rfl, rfl⟩ ⟨by decide, by decide⟩ rfl (Nat.le_of_ble_eq_true rfl) dX8_readCause_28 ⟨by decide, by decide⟩ (fun H locs hH => ?_)
    refine lv_if_eq (tgt := 44) hx hb dX8_readCause_31 (by decide) (fun hc_25 => ?_) (fun hc_25 => ?_)
    · rw [if_pos hc_25] at hq
      refine lv_iconst (v := 0) hx hb dX8_readCause_44 (by decide) ?_
      cases hq
      exact bk_zret C hH (Or.inl rfl) dX8_readCause_45
    · rw [if_neg hc_25] at hq
      refine lv_aload_n hx hb dX8_readCause_34 rfl (lv_at hl 1 rfl) ?_
      refine lv_iconst (v := 0) hx hb dX8_readCause_35 (by decide) ?_
      refine lv_bipush (v := 99) hx hb dX8_readCause_36 (by decide) ?_
      obtain ⟨r_13, V_14, hr_12, hq⟩ := bk_bd2_some hq
      refine bk_callV (rest := []) (As := [.int 0, .int 99]) (ro := (some (.int r_13))) (Y1 := Y) (V1 := V_14) C hH hl.1 (c_X8_readNumber hr_12) mc_X8_readNumber mv_X8_readNumber lk_RX8_140 hs_1 rfl rfl ⟨rfl, rfl⟩ ⟨by decide, by decide⟩ rfl (Nat.le_of_ble_eq_true rfl) dX8_readCause_38 ⟨by decide, by decide⟩ (fun H locs hH => ?_)
      refine lv_if_ne (tgt := 46) hx hb dX8_readCause_41 (by decide) (fun hc_24 => ?_) (fun hc_24 => ?_)
      · rw [if_neg hc_24] at hq
        refine lv_aload_n hx hb dX8_readCause_46 rfl (lv_at hl 1 rfl) ?_
        obtain ⟨b_15, hr_16, hq⟩ := bk_bd_some hq
        refine bk_getr C hH fl_RX8_20 hs_1 rfl hr_16 dX8_readCause_47 ?_
        obtain ⟨hs_17, hq⟩ := bk_ck_some hq
        obtain ⟨b_18, hr_19, hq⟩ := bk_bd_some hq
        refine bk_getr C hH fl_RX8_67 hs_17 rfl hr_19 dX8_readCause_50 ?_
        refine lv_iload_n hx hb dX8_readCause_53 rfl (lv_at hl 0 rfl) ?_
        refine lv_aload_n hx hb dX8_readCause_54 rfl (lv_at hl 1 rfl) ?_
        refine bk_geti C hH fl_RX8_147 hs_1 rfl dX8_readCause_55 ?_
        obtain ⟨ha_20, hq⟩ := bk_ck_some hq
        obtain ⟨hi_21, hq⟩ := bk_ck_some hq
        refine bk_iast C hH (bk_arr ha_20) (bk_in_vp hi_21) dX8_readCause_58 (fun V_22 H locs e_23 hH => ?_)
        have hq := bk_let_eq e_23 hq
        refine lv_iconst (v := 1) hx hb dX8_readCause_59 (by decide) ?_
        cases hq
        exact bk_zret C hH (Or.inr rfl) dX8_readCause_60
      · rw [if_pos hc_24] at hq
        refine lv_iconst (v := 0) hx hb dX8_readCause_44 (by decide) ?_
        cases hq
        exact bk_zret C hH (Or.inl rfl) dX8_readCause_45
  · rw [if_pos hc_29] at hq
    refine lv_aload_n hx hb dX8_readCause_17 rfl (lv_at hl 1 rfl) ?_
    refine lv_iconst (v := 1) hx hb dX8_readCause_18 (by decide) ?_
    obtain ⟨r_27, V_28, hr_26, hq⟩ := bk_bd2_some hq
    refine bk_callV (rest := []) (As := [.int 1]) (ro := (some (.int r_27))) (Y1 := Y) (V1 := V_28) C hH hl.1 (c_X8_refuse hr_26) mc_X8_refuse mv_X8_refuse lk_RX8_71 hs_1 rfl rfl ⟨rfl, rfl⟩ ⟨by decide, by decide⟩ rfl (Nat.le_of_ble_eq_true rfl) dX8_readCause_19 ⟨by decide, by decide⟩ (fun H locs hH => ?_)
    obtain ⟨hz9, hq⟩ := bk_ck_some hq
    cases hq
    exact bk_zret C hH hz9 dX8_readCause_22
set_option maxRecDepth 100000 in
theorem c_X8_readCause {l : Launch} {G : bk_G} {N : Nat} {Y : bk_Lay} {V : bk_Val} {a0 : Nat} {out : Int32 × bk_Val} (hq : q_X8_readCause N Y V a0 = some out) : Met l yX8_readCause (bk_ws yX8_readCause cX8_readCause 2 (some FieldType.boolean)) rm_X8_readCause (bk_Pc G [.ref a0] Y V) (bk_Q G (some (.int out.1)) Y out.2) 0 0 (bk_A G) :=
  bk_met (by decide) (Nat.le_of_ble_eq_true rfl) (fun p e s m args below meth c ls C hnm hH hl => w_X8_readCause C _ _ _ _ _ _ hl hH hq)

def rm_X1_init : Room := bk_rm 1 3 18 24
set_option maxRecDepth 100000 in
set_option maxHeartbeats 4000000 in
theorem w_X1_init (C : bk_C G p s m args meth c cX1_init RX1 1 (none : Option FieldType)) (hnm : meth.name = "<init>") : ∀ (Y : bk_Lay) (V : bk_Val) (a0 : Nat) (H : Heap) (locs : List Loc) (ls : Array Slot) (out : bk_Lay × bk_Val), lv_has ls 1 [(0, .ref a0)] → bk_H G Y V s.heap H locs → q_X1_init N Y V a0 = some out → W p l e rm_X1_init s m args below meth c H locs 0 0 (MQ below (bk_Q G none out.1 out.2) args s 3 18 (bk_A G)) (F0 m 0 ls []) := by
  have hx := C.1
  have hb := C.2.1
  intro Y V a0 H locs ls out hl hH hq
  unfold q_X1_init at hq
  refine lv_aload_n hx hb dX1_init_0 rfl (lv_at hl 0 rfl) ?_
  refine bk_obin C hl.1 oi_RX1 oj ok_obj dX1_init_1 (by decide) (by decide) ?_
  refine lv_aload_n hx hb dX1_init_4 rfl (lv_at hl 0 rfl) ?_
  refine lv_bipush (v := 6) hx hb dX1_init_5 (by decide) ?_
  refine bk_newa (K := 6) C hH (Or.inl ⟨rfl, rfl⟩) ac_2 (by decide) (by decide) (by decide) (by decide) (by decide) dX1_init_7 (fun Y_2 V_3 H e_4 e_5 hH => ?_)
  have hq := bk_let_eq e_4 hq
  have hq := bk_let_eq e_5 hq
  obtain ⟨b_1, e_6⟩ : ∃ z, z = bk_sz Y := ⟨_, rfl⟩
  have hq := bk_let_eq e_6 hq
  rw [← e_6]
  refine W.widen (k := 1) (n := 6) (by decide) (by decide) ?_
  obtain ⟨hs_7, hq⟩ := bk_ck_some hq
  refine bk_putr C hH fp_RX1_9 (fun _ => hnm) hs_7 rfl rfl rfl dX1_init_9 (fun Y_8 H locs e_9 hH => ?_)
  have hq := bk_let_eq e_9 hq
  refine lv_aload_n hx hb dX1_init_12 rfl (lv_at hl 0 rfl) ?_
  refine lv_bipush (v := 6) hx hb dX1_init_13 (by decide) ?_
  refine bk_newa (K := 6) C hH (Or.inl ⟨rfl, rfl⟩) ac_2 (by decide) (by decide) (by decide) (by decide) (by decide) dX1_init_15 (fun Y_11 V_12 H e_13 e_14 hH => ?_)
  have hq := bk_let_eq e_13 hq
  have hq := bk_let_eq e_14 hq
  obtain ⟨b_10, e_15⟩ : ∃ z, z = bk_sz Y_8 := ⟨_, rfl⟩
  have hq := bk_let_eq e_15 hq
  rw [← e_15]
  refine W.widen (k := 2) (n := 12) (by decide) (by decide) ?_
  obtain ⟨hs_16, hq⟩ := bk_ck_some hq
  refine bk_putr C hH fp_RX1_15 (fun _ => hnm) hs_16 rfl rfl rfl dX1_init_17 (fun Y_17 H locs e_18 hH => ?_)
  have hq := bk_let_eq e_18 hq
  refine lv_aload_n hx hb dX1_init_20 rfl (lv_at hl 0 rfl) ?_
  refine lv_bipush (v := 6) hx hb dX1_init_21 (by decide) ?_
  refine bk_newa (K := 6) C hH (Or.inl ⟨rfl, rfl⟩) ac_2 (by decide) (by decide) (by decide) (by decide) (by decide) dX1_init_23 (fun Y_20 V_21 H e_22 e_23 hH => ?_)
  have hq := bk_let_eq e_22 hq
  have hq := bk_let_eq e_23 hq
  obtain ⟨b_19, e_24⟩ : ∃ z, z = bk_sz Y_17 := ⟨_, rfl⟩
  have hq := bk_let_eq e_24 hq
  rw [← e_24]
  refine W.widen (k := 3) (n := 18) (by decide) (by decide) ?_
  obtain ⟨hs_25, hq⟩ := bk_ck_some hq
  refine bk_putr C hH fp_RX1_18 (fun _ => hnm) hs_25 rfl rfl rfl dX1_init_25 (fun Y_26 H locs e_27 hH => ?_)
  have hq := bk_let_eq e_27 hq
  cases hq
  exact bk_vret C hH dX1_init_28
set_option maxRecDepth 100000 in
theorem c_X1_init {l : Launch} {G : bk_G} {N : Nat} {Y : bk_Lay} {V : bk_Val} {a0 : Nat} {out : bk_Lay × bk_Val} (hq : q_X1_init N Y V a0 = some out) : Met l yX1_init (bk_ws yX1_init cX1_init 1 (none : Option FieldType)) rm_X1_init (bk_Pc G [.ref a0] Y V) (bk_Q G none out.1 out.2) 3 18 (bk_A G) :=
  bk_met (by decide) (Nat.le_of_ble_eq_true rfl) (fun p e s m args below meth c ls C hnm hH hl => w_X1_init C hnm _ _ _ _ _ _ _ hl hH hq)

def rm_X5_inches : Room := bk_rm 0 0 0 0
set_option maxRecDepth 100000 in
set_option maxHeartbeats 4000000 in
theorem w_X5_inches (C : bk_C G p s m args meth c cX5_inches RX5 1 (some FieldType.int)) : ∀ (V : bk_Val) (a0 : Nat) (H : Heap) (locs : List Loc) (ls : Array Slot) (out : Int32), lv_has ls 1 [(0, .ref a0)] → bk_H G Y V s.heap H locs → q_X5_inches N Y V a0 = some out → W p l e rm_X5_inches s m args below meth c H locs 0 0 (MQ below (bk_Q G (some (.int out)) Y V) args s 0 0 (bk_A G)) (F0 m 0 ls []) := by
  have hx := C.1
  have hb := C.2.1
  intro V a0 H locs ls out hl hH hq
  unfold q_X5_inches at hq
  refine lv_aload_n hx hb dX5_inches_0 rfl (lv_at hl 0 rfl) ?_
  obtain ⟨hs_1, hq⟩ := bk_ck_some hq
  obtain ⟨b_2, hr_3, hq⟩ := bk_bd_some hq
  refine bk_getr C hH fl_RX5_9 hs_1 rfl hr_3 dX5_inches_1 ?_
  refine lv_iconst (v := 0) hx hb dX5_inches_4 (by decide) ?_
  obtain ⟨ha_4, hq⟩ := bk_ck_some hq
  obtain ⟨hi_5, hq⟩ := bk_ck_some hq
  refine bk_iald C hH (bk_arr ha_4) (bk_in_vp hi_5) dX5_inches_5 ?_
  cases hq
  exact bk_iret C hH dX5_inches_6
set_option maxRecDepth 100000 in
theorem c_X5_inches {l : Launch} {G : bk_G} {N : Nat} {Y : bk_Lay} {V : bk_Val} {a0 : Nat} {out : Int32} (hq : q_X5_inches N Y V a0 = some out) : Met l yX5_inches (bk_ws yX5_inches cX5_inches 1 (some FieldType.int)) rm_X5_inches (bk_Pc G [.ref a0] Y V) (bk_Q G (some (.int out)) Y V) 0 0 (bk_A G) :=
  bk_met (by decide) (Nat.le_of_ble_eq_true rfl) (fun p e s m args below meth c ls C hnm hH hl => w_X5_inches C _ _ _ _ _ _ hl hH hq)

def rm_X0_totalOfInch : Room := bk_rm 0 0 0 0
set_option maxRecDepth 100000 in
set_option maxHeartbeats 4000000 in
theorem w_X0_totalOfInch_7 (C : bk_C G p s m args meth c cX0_totalOfInch RX0 5 (some FieldType.long)) : ∀ (n : Nat), ∀ (V : bk_Val) (a0 : Nat) (x1 : Int32) (w2 : Int64) (x4 : Int32) (H : Heap) (locs : List Loc) (ls : Array Slot) (out : Int64), lv_has ls 5 [(0, .ref a0), (1, .int x1), (2, .long w2), (4, .int x4)] → bk_H G Y V s.heap H locs → q_X0_totalOfInch_7 N Y n V a0 x1 w2 x4 = some out → W p l e rm_X0_totalOfInch s m args below meth c H locs 0 0 (MQ below (bk_Q G (some (.long out)) Y V) args s 0 0 (bk_A G)) (F0 m 7 ls []) := by
  have hx := C.1
  have hb := C.2.1
  intro n
  induction n with
  | zero =>
    intro V a0 x1 w2 x4 H locs ls out hl hH hq
    exact nomatch (show (none : Option (Int64)) = some out from hq)
  | succ n ih =>
    intro V a0 x1 w2 x4 H locs ls out hl hH hq
    unfold q_X0_totalOfInch_7 at hq
    refine lv_iload hx hb dX0_totalOfInch_7 (lv_at hl 3 rfl) ?_
    refine lv_if_lt (tgt := 42) hx hb dX0_totalOfInch_9 (by decide) (fun hc_7 => ?_) (fun hc_7 => ?_)
    · rw [if_pos hc_7] at hq
      refine lv_lload_n hx hb dX0_totalOfInch_42 rfl (lv_at hl 2 rfl) ?_
      cases hq
      exact bk_lret C hH dX0_totalOfInch_43
    · rw [if_neg hc_7] at hq
      refine lv_iload hx hb dX0_totalOfInch_12 (lv_at hl 3 rfl) ?_
      refine lv_iconst (v := 4) hx hb dX0_totalOfInch_14 (by decide) ?_
      refine lv_iload_n hx hb dX0_totalOfInch_15 rfl (lv_at hl 1 rfl) ?_
      refine lv_imul hx hb dX0_totalOfInch_16 ?_
      refine lv_iconst (v := 4) hx hb dX0_totalOfInch_17 (by decide) ?_
      refine lv_iadd hx hb dX0_totalOfInch_18 ?_
      refine lv_icmp_ge (tgt := 42) hx hb dX0_totalOfInch_19 (by decide) (fun hc_6 => ?_) (fun hc_6 => ?_)
      · rw [if_pos hc_6] at hq
        refine lv_lload_n hx hb dX0_totalOfInch_42 rfl (lv_at hl 2 rfl) ?_
        cases hq
        exact bk_lret C hH dX0_totalOfInch_43
      · rw [if_neg hc_6] at hq
        refine lv_iload hx hb dX0_totalOfInch_22 (lv_at hl 3 rfl) ?_
        refine lv_aload_n hx hb dX0_totalOfInch_24 rfl (lv_at hl 0 rfl) ?_
        obtain ⟨ha_1, hq⟩ := bk_ck_some hq
        refine bk_alen C hH (bk_arr ha_1) (by decide) dX0_totalOfInch_25 ?_
        refine lv_icmp_ge (tgt := 42) hx hb dX0_totalOfInch_26 (by decide) (fun hc_5 => ?_) (fun hc_5 => ?_)
        · rw [if_pos hc_5] at hq
          refine lv_lload_n hx hb dX0_totalOfInch_42 rfl (lv_at hl 2 rfl) ?_
          cases hq
          exact bk_lret C hH dX0_totalOfInch_43
        · rw [if_neg hc_5] at hq
          refine lv_lload_n hx hb dX0_totalOfInch_29 rfl (lv_at hl 2 rfl) ?_
          refine lv_aload_n hx hb dX0_totalOfInch_30 rfl (lv_at hl 0 rfl) ?_
          refine lv_iload hx hb dX0_totalOfInch_31 (lv_at hl 3 rfl) ?_
          obtain ⟨hi_2, hq⟩ := bk_ck_some hq
          refine bk_lald C hH (bk_arr ha_1) (bk_in_vp hi_2) dX0_totalOfInch_33 ?_
          refine lv_ladd hx hb dX0_totalOfInch_34 ?_
          refine lv_topl (fun w2_3 e_4 => ?_)
          have hq := bk_let_eq e_4 hq
          refine lv_lstore_n (lv' := [(2, .long w2_3), (0, .ref a0), (1, .int x1), (4, .int x4)]) hx hb dX0_totalOfInch_35 rfl hl (by decide) rfl (fun ls hl => ?_)
          refine lv_iinc (v := (x4 + 1)) (lv' := [(4, .int (x4 + 1)), (2, .long w2_3), (0, .ref a0), (1, .int x1)]) hx hb dX0_totalOfInch_36 hl (k := 3) rfl rfl (by decide) rfl (fun ls hl => ?_)
          refine lv_goto (tgt := 7) hx hb dX0_totalOfInch_39 (by decide) ?_
          exact ih _ _ _ _ _ _ _ _ _ (lv_sub hl [2, 3, 1, 0] rfl) hH hq

set_option maxRecDepth 100000 in
set_option maxHeartbeats 4000000 in
theorem w_X0_totalOfInch (C : bk_C G p s m args meth c cX0_totalOfInch RX0 5 (some FieldType.long)) : ∀ (V : bk_Val) (a0 : Nat) (x1 : Int32) (H : Heap) (locs : List Loc) (ls : Array Slot) (out : Int64), lv_has ls 5 [(0, .ref a0), (1, .int x1)] → bk_H G Y V s.heap H locs → q_X0_totalOfInch N Y V a0 x1 = some out → W p l e rm_X0_totalOfInch s m args below meth c H locs 0 0 (MQ below (bk_Q G (some (.long out)) Y V) args s 0 0 (bk_A G)) (F0 m 0 ls []) := by
  have hx := C.1
  have hb := C.2.1
  intro V a0 x1 H locs ls out hl hH hq
  unfold q_X0_totalOfInch at hq
  refine lv_lconst (v := 0) hx hb dX0_totalOfInch_0 (by decide) ?_
  refine lv_lstore_n (lv' := [(2, .long 0), (0, .ref a0), (1, .int x1)]) hx hb dX0_totalOfInch_1 rfl hl (by decide) rfl (fun ls hl => ?_)
  refine lv_iconst (v := 4) hx hb dX0_totalOfInch_2 (by decide) ?_
  refine lv_iload_n hx hb dX0_totalOfInch_3 rfl (lv_at hl 2 rfl) ?_
  refine lv_imul hx hb dX0_totalOfInch_4 ?_
  refine lv_istore (lv' := [(4, .int (4 * x1)), (2, .long 0), (0, .ref a0), (1, .int x1)]) hx hb dX0_totalOfInch_5 hl (by decide) rfl (fun ls hl => ?_)
  exact w_X0_totalOfInch_7 C _ _ _ _ _ _ _ _ _ _ (lv_sub hl [2, 3, 1, 0] rfl) hH hq
set_option maxRecDepth 100000 in
theorem c_X0_totalOfInch {l : Launch} {G : bk_G} {N : Nat} {Y : bk_Lay} {V : bk_Val} {a0 : Nat} {x1 : Int32} {out : Int64} (hq : q_X0_totalOfInch N Y V a0 x1 = some out) : Met l yX0_totalOfInch (bk_ws yX0_totalOfInch cX0_totalOfInch 5 (some FieldType.long)) rm_X0_totalOfInch (bk_Pc G [.ref a0, .int x1] Y V) (bk_Q G (some (.long out)) Y V) 0 0 (bk_A G) :=
  bk_met (by decide) (Nat.le_of_ble_eq_true rfl) (fun p e s m args below meth c ls C hnm hH hl => w_X0_totalOfInch C _ _ _ _ _ _ _ hl hH hq)

def rm_X0_total : Room := bk_rm 0 0 0 0
set_option maxRecDepth 100000 in
set_option maxHeartbeats 4000000 in
theorem w_X0_total_4 (C : bk_C G p s m args meth c cX0_total RX0 4 (some FieldType.long)) : ∀ (n : Nat), ∀ (V : bk_Val) (a0 : Nat) (w1 : Int64) (x3 : Int32) (H : Heap) (locs : List Loc) (ls : Array Slot) (out : Int64), lv_has ls 4 [(0, .ref a0), (1, .long w1), (3, .int x3)] → bk_H G Y V s.heap H locs → q_X0_total_4 N Y n V a0 w1 x3 = some out → W p l e rm_X0_total s m args below meth c H locs 0 0 (MQ below (bk_Q G (some (.long out)) Y V) args s 0 0 (bk_A G)) (F0 m 4 ls []) := by
  have hx := C.1
  have hb := C.2.1
  intro n
  induction n with
  | zero =>
    intro V a0 w1 x3 H locs ls out hl hH hq
    exact nomatch (show (none : Option (Int64)) = some out from hq)
  | succ n ih =>
    intro V a0 w1 x3 H locs ls out hl hH hq
    unfold q_X0_total_4 at hq
    refine lv_iload_n hx hb dX0_total_4 rfl (lv_at hl 2 rfl) ?_
    refine lv_aload_n hx hb dX0_total_5 rfl (lv_at hl 0 rfl) ?_
    obtain ⟨ha_1, hq⟩ := bk_ck_some hq
    refine bk_alen C hH (bk_arr ha_1) (by decide) dX0_total_6 ?_
    refine lv_icmp_ge (tgt := 22) hx hb dX0_total_7 (by decide) (fun hc_5 => ?_) (fun hc_5 => ?_)
    · rw [if_pos hc_5] at hq
      refine lv_lload_n hx hb dX0_total_22 rfl (lv_at hl 1 rfl) ?_
      cases hq
      exact bk_lret C hH dX0_total_23
    · rw [if_neg hc_5] at hq
      refine lv_lload_n hx hb dX0_total_10 rfl (lv_at hl 1 rfl) ?_
      refine lv_aload_n hx hb dX0_total_11 rfl (lv_at hl 0 rfl) ?_
      refine lv_iload_n hx hb dX0_total_12 rfl (lv_at hl 2 rfl) ?_
      obtain ⟨hi_2, hq⟩ := bk_ck_some hq
      refine bk_lald C hH (bk_arr ha_1) (bk_in_vp hi_2) dX0_total_13 ?_
      refine lv_ladd hx hb dX0_total_14 ?_
      refine lv_topl (fun w1_3 e_4 => ?_)
      have hq := bk_let_eq e_4 hq
      refine lv_lstore_n (lv' := [(1, .long w1_3), (0, .ref a0), (3, .int x3)]) hx hb dX0_total_15 rfl hl (by decide) rfl (fun ls hl => ?_)
      refine lv_iinc (v := (x3 + 1)) (lv' := [(3, .int (x3 + 1)), (1, .long w1_3), (0, .ref a0)]) hx hb dX0_total_16 hl (k := 2) rfl rfl (by decide) rfl (fun ls hl => ?_)
      refine lv_goto (tgt := 4) hx hb dX0_total_19 (by decide) ?_
      exact ih _ _ _ _ _ _ _ _ (lv_sub hl [2, 1, 0] rfl) hH hq

set_option maxRecDepth 100000 in
set_option maxHeartbeats 4000000 in
theorem w_X0_total (C : bk_C G p s m args meth c cX0_total RX0 4 (some FieldType.long)) : ∀ (V : bk_Val) (a0 : Nat) (H : Heap) (locs : List Loc) (ls : Array Slot) (out : Int64), lv_has ls 4 [(0, .ref a0)] → bk_H G Y V s.heap H locs → q_X0_total N Y V a0 = some out → W p l e rm_X0_total s m args below meth c H locs 0 0 (MQ below (bk_Q G (some (.long out)) Y V) args s 0 0 (bk_A G)) (F0 m 0 ls []) := by
  have hx := C.1
  have hb := C.2.1
  intro V a0 H locs ls out hl hH hq
  unfold q_X0_total at hq
  refine lv_lconst (v := 0) hx hb dX0_total_0 (by decide) ?_
  refine lv_lstore_n (lv' := [(1, .long 0), (0, .ref a0)]) hx hb dX0_total_1 rfl hl (by decide) rfl (fun ls hl => ?_)
  refine lv_iconst (v := 0) hx hb dX0_total_2 (by decide) ?_
  refine lv_istore_n (lv' := [(3, .int 0), (1, .long 0), (0, .ref a0)]) hx hb dX0_total_3 rfl hl (by decide) rfl (fun ls hl => ?_)
  exact w_X0_total_4 C _ _ _ _ _ _ _ _ _ (lv_sub hl [2, 1, 0] rfl) hH hq
set_option maxRecDepth 100000 in
theorem c_X0_total {l : Launch} {G : bk_G} {N : Nat} {Y : bk_Lay} {V : bk_Val} {a0 : Nat} {out : Int64} (hq : q_X0_total N Y V a0 = some out) : Met l yX0_total (bk_ws yX0_total cX0_total 4 (some FieldType.long)) rm_X0_total (bk_Pc G [.ref a0] Y V) (bk_Q G (some (.long out)) Y V) 0 0 (bk_A G) :=
  bk_met (by decide) (Nat.le_of_ble_eq_true rfl) (fun p e s m args below meth c ls C hnm hH hl => w_X0_total C _ _ _ _ _ _ hl hH hq)

def rm_X3_begin : Room := bk_rm 2 0 0 60
set_option maxRecDepth 100000 in
set_option maxHeartbeats 4000000 in
theorem w_X3_begin_30 (C : bk_C G p s m args meth c cX3_begin RX3 5 (none : Option FieldType)) : ∀ (n : Nat), ∀ (Y : bk_Lay) (V : bk_Val) (a0 : Nat) (a2 : Nat) (x4 : Int32) (H : Heap) (locs : List Loc) (ls : Array Slot) (out : bk_Lay × bk_Val), lv_has ls 5 [(0, .ref a0), (2, .ref a2), (4, .int x4)] → bk_H G Y V s.heap H locs → q_X3_begin_30 N n Y V a0 a2 x4 = some out → W p l e rm_X3_begin s m args below meth c H locs 0 0 (MQ below (bk_Q G none out.1 out.2) args s 0 0 (bk_A G)) (F0 m 30 ls []) := by
  have hx := C.1
  have hb := C.2.1
  intro n
  induction n with
  | zero =>
    intro Y V a0 a2 x4 H locs ls out hl hH hq
    exact nomatch (show (none : Option (bk_Lay × bk_Val)) = some out from hq)
  | succ n ih =>
    intro Y V a0 a2 x4 H locs ls out hl hH hq
    unfold q_X3_begin_30 at hq
    refine lv_iload hx hb dX3_begin_30 (lv_at hl 2 rfl) ?_
    refine lv_aload_n hx hb dX3_begin_32 rfl (lv_at hl 0 rfl) ?_
    obtain ⟨hs_1, hq⟩ := bk_ck_some hq
    rcases bk_nl_cases hq with ⟨hr_3, hq⟩ | ⟨b_2, hr_3, hq⟩
    · refine bk_getn C hH fl_RX3_29 hs_1 rfl hr_3 dX3_begin_33 ?_
      exact nomatch (show (none : Option (bk_Lay × bk_Val)) = some out from hq)
    · refine bk_getr C hH fl_RX3_29 hs_1 rfl hr_3 dX3_begin_33 ?_
      obtain ⟨hs_6, hq⟩ := bk_ck_some hq
      obtain ⟨r_5, hr_4, hq⟩ := bk_bd_some hq
      refine bk_callV (rest := [.int x4]) (As := []) (ro := (some (.int r_5))) (Y1 := Y) (V1 := V) C hH hl.1 (c_X5_inches hr_4) mc_X5_inches mv_X5_inches lk_RX3_45 hs_6 rfl rfl ⟨rfl, rfl⟩ ⟨by decide, by decide⟩ rfl (Nat.le_of_ble_eq_true rfl) dX3_begin_36 ⟨by decide, by decide⟩ (fun H locs hH => ?_)
      refine lv_icmp_ge (tgt := 64) hx hb dX3_begin_39 (by decide) (fun hc_29 => ?_) (fun hc_29 => ?_)
      · rw [if_pos hc_29] at hq
        refine lv_aload_n hx hb dX3_begin_64 rfl (lv_at hl 0 rfl) ?_
        obtain ⟨b_7, hr_8, hq⟩ := bk_bd_some hq
        refine bk_getr C hH fl_RX3_22 hs_1 rfl hr_8 dX3_begin_65 ?_
        refine lv_iconst (v := 0) hx hb dX3_begin_68 (by decide) ?_
        refine lv_aload_n hx hb dX3_begin_69 rfl (lv_at hl 1 rfl) ?_
        obtain ⟨r_10, hr_9, hq⟩ := bk_bd_some hq
        refine bk_callS (rest := [.int 0, .ref b_7]) (As := [.ref a2]) (ro := (some (.long r_10))) (Y1 := Y) (V1 := V) C hH hl.1 (c_X0_total hr_9) mc_X0_total st_X0_total lk_RX3_56 rfl ⟨rfl, rfl⟩ ⟨by decide, by decide⟩ rfl (Nat.le_of_ble_eq_true rfl) dX3_begin_70 ⟨by decide, by decide⟩ (fun H locs hH => ?_)
        obtain ⟨ha_11, hq⟩ := bk_ck_some hq
        obtain ⟨hi_12, hq⟩ := bk_ck_some hq
        refine bk_last C hH (bk_arr ha_11) (bk_in_vp hi_12) dX3_begin_73 (fun V_13 H locs e_14 hH => ?_)
        have hq := bk_let_eq e_14 hq
        refine lv_aload_n hx hb dX3_begin_74 rfl (lv_at hl 0 rfl) ?_
        refine lv_iconst (v := 0) hx hb dX3_begin_75 (by decide) ?_
        refine bk_puti C hH fp_RX3_60 (fun h => by cases h) hs_1 rfl dX3_begin_76 (fun V_15 H locs e_16 hH => ?_)
        have hq := bk_let_eq e_16 hq
        refine lv_aload_n hx hb dX3_begin_79 rfl (lv_at hl 0 rfl) ?_
        refine lv_iconst (v := 1) hx hb dX3_begin_80 (by decide) ?_
        refine bk_putz C hH fp_RX3_25 (fun h => by cases h) hs_1 rfl (Or.inr rfl) dX3_begin_81 (fun V_17 H locs e_18 hH => ?_)
        have hq := bk_let_eq e_18 hq
        cases hq
        exact bk_vret C hH dX3_begin_84
      · rw [if_neg hc_29] at hq
        refine lv_aload_n hx hb dX3_begin_42 rfl (lv_at hl 0 rfl) ?_
        obtain ⟨b_19, hr_20, hq⟩ := bk_bd_some hq
        refine bk_getr C hH fl_RX3_15 hs_1 rfl hr_20 dX3_begin_43 ?_
        refine lv_iload hx hb dX3_begin_46 (lv_at hl 2 rfl) ?_
        refine lv_aload_n hx hb dX3_begin_48 rfl (lv_at hl 0 rfl) ?_
        obtain ⟨b_21, hr_22, hq⟩ := bk_bd_some hq
        refine bk_getr C hH fl_RX3_9 hs_1 rfl hr_22 dX3_begin_49 ?_
        refine lv_iload hx hb dX3_begin_52 (lv_at hl 2 rfl) ?_
        obtain ⟨r_24, hr_23, hq⟩ := bk_bd_some hq
        refine bk_callS (rest := [.int x4, .ref b_19]) (As := [.ref b_21, .int x4]) (ro := (some (.long r_24))) (Y1 := Y) (V1 := V) C hH hl.1 (c_X0_totalOfInch hr_23) mc_X0_totalOfInch st_X0_totalOfInch lk_RX3_50 rfl ⟨rfl, rfl⟩ ⟨by decide, by decide⟩ rfl (Nat.le_of_ble_eq_true rfl) dX3_begin_54 ⟨by decide, by decide⟩ (fun H locs hH => ?_)
        obtain ⟨ha_25, hq⟩ := bk_ck_some hq
        obtain ⟨hi_26, hq⟩ := bk_ck_some hq
        refine bk_last C hH (bk_arr ha_25) (bk_in_vp hi_26) dX3_begin_57 (fun V_27 H locs e_28 hH => ?_)
        have hq := bk_let_eq e_28 hq
        refine lv_iinc (v := (x4 + 1)) (lv' := [(4, .int (x4 + 1)), (0, .ref a0), (2, .ref a2)]) hx hb dX3_begin_58 hl (k := 2) rfl rfl (by decide) rfl (fun ls hl => ?_)
        refine lv_goto (tgt := 30) hx hb dX3_begin_61 (by decide) ?_
        exact ih _ _ _ _ _ _ _ _ _ (lv_sub hl [1, 2, 0] rfl) hH hq

set_option maxRecDepth 100000 in
set_option maxHeartbeats 4000000 in
theorem w_X3_begin (C : bk_C G p s m args meth c cX3_begin RX3 5 (none : Option FieldType)) : ∀ (Y : bk_Lay) (V : bk_Val) (a0 : Nat) (a1 : Nat) (a2 : Nat) (H : Heap) (locs : List Loc) (ls : Array Slot) (out : bk_Lay × bk_Val), lv_has ls 5 [(0, .ref a0), (1, .ref a1), (2, .ref a2)] → bk_H G Y V s.heap H locs → q_X3_begin N Y V a0 a1 a2 = some out → W p l e rm_X3_begin s m args below meth c H locs 0 0 (MQ below (bk_Q G none out.1 out.2) args s 0 0 (bk_A G)) (F0 m 0 ls []) := by
  have hx := C.1
  have hb := C.2.1
  intro Y V a0 a1 a2 H locs ls out hl hH hq
  unfold q_X3_begin at hq
  refine lv_aload_n hx hb dX3_begin_0 rfl (lv_at hl 0 rfl) ?_
  refine lv_aload_n hx hb dX3_begin_1 rfl (lv_at hl 1 rfl) ?_
  obtain ⟨hs_30, hq⟩ := bk_ck_some hq
  refine bk_putr C hH fp_RX3_29 (fun h => by cases h) hs_30 rfl rfl rfl dX3_begin_2 (fun Y_31 H locs e_32 hH => ?_)
  have hq := bk_let_eq e_32 hq
  refine lv_aload_n hx hb dX3_begin_5 rfl (lv_at hl 2 rfl) ?_
  obtain ⟨ha_33, hq⟩ := bk_ck_some hq
  refine bk_alen C hH (bk_arr ha_33) (by decide) dX3_begin_6 ?_
  refine lv_aload_n hx hb dX3_begin_7 rfl (lv_at hl 0 rfl) ?_
  obtain ⟨b_34, hr_35, hq⟩ := bk_bd_some hq
  refine bk_getr C hH fl_RX3_9 (by rw [e_32]; exact hs_30) rfl hr_35 dX3_begin_8 ?_
  obtain ⟨ha_36, hq⟩ := bk_ck_some hq
  refine bk_alen C hH (bk_arr ha_36) (by decide) dX3_begin_11 ?_
  obtain ⟨r_38, hr_37, hq⟩ := bk_bd_some hq
  refine bk_callS (rest := []) (As := [.int (nI (bk_sh Y_31 a2).2), .int (nI (bk_sh Y_31 b_34).2)]) (ro := (some (.int r_38))) (Y1 := Y_31) (V1 := V) C hH hl.1 (c_J9_min_7cf53 hr_37) mc_J9_min_7cf53 st_J9_min_7cf53 lk_RX3_33 rfl ⟨rfl, rfl⟩ ⟨by decide, by decide⟩ rfl (Nat.le_of_ble_eq_true rfl) dX3_begin_12 ⟨by decide, by decide⟩ (fun H locs hH => ?_)
  refine lv_istore_n (lv' := [(3, .int r_38), (0, .ref a0), (1, .ref a1), (2, .ref a2)]) hx hb dX3_begin_15 rfl hl (by decide) rfl (fun ls hl => ?_)
  refine lv_aload_n hx hb dX3_begin_16 rfl (lv_at hl 3 rfl) ?_
  refine lv_iconst (v := 0) hx hb dX3_begin_17 (by decide) ?_
  refine lv_aload_n hx hb dX3_begin_18 rfl (lv_at hl 1 rfl) ?_
  refine bk_getr C hH fl_RX3_9 (by rw [e_32]; exact hs_30) rfl hr_35 dX3_begin_19 ?_
  refine lv_iconst (v := 0) hx hb dX3_begin_22 (by decide) ?_
  refine lv_iload_n hx hb dX3_begin_23 rfl (lv_at hl 0 rfl) ?_
  obtain ⟨hy_39, hq⟩ := bk_ck_some hq
  refine bk_copyl (rest := []) C hH hl.1 ay_RX3_39 ay_nat ay_st ay_in (bk_arr ha_33) (bk_arr ha_36) hy_39.1 hy_39.2.1 hy_39.2.2.1 hy_39.2.2.2.1 hy_39.2.2.2.2 (by decide) (by decide) dX3_begin_24 (fun V_40 H locs e_41 hH => ?_)
  have hq := bk_let_eq e_41 hq
  refine lv_iconst (v := 0) hx hb dX3_begin_27 (by decide) ?_
  refine lv_istore (lv' := [(4, .int 0), (3, .int r_38), (0, .ref a0), (1, .ref a1), (2, .ref a2)]) hx hb dX3_begin_28 hl (by decide) rfl (fun ls hl => ?_)
  exact w_X3_begin_30 C _ _ _ _ _ _ _ _ _ _ (lv_sub hl [2, 4, 0] rfl) hH hq
set_option maxRecDepth 100000 in
theorem c_X3_begin {l : Launch} {G : bk_G} {N : Nat} {Y : bk_Lay} {V : bk_Val} {a0 : Nat} {a1 : Nat} {a2 : Nat} {out : bk_Lay × bk_Val} (hq : q_X3_begin N Y V a0 a1 a2 = some out) : Met l yX3_begin (bk_ws yX3_begin cX3_begin 5 (none : Option FieldType)) rm_X3_begin (bk_Pc G [.ref a0, .ref a1, .ref a2] Y V) (bk_Q G none out.1 out.2) 0 0 (bk_A G) :=
  bk_met (by decide) (Nat.le_of_ble_eq_true rfl) (fun p e s m args below meth c ls C hnm hH hl => w_X3_begin C _ _ _ _ _ _ _ _ _ hl hH hq)

def rm_X5_hand : Room := bk_rm 0 0 0 0
set_option maxRecDepth 100000 in
set_option maxHeartbeats 4000000 in
theorem w_X5_hand (C : bk_C G p s m args meth c cX5_hand RX5 1 (some FieldType.int)) : ∀ (V : bk_Val) (a0 : Nat) (H : Heap) (locs : List Loc) (ls : Array Slot) (out : Int32), lv_has ls 1 [(0, .ref a0)] → bk_H G Y V s.heap H locs → q_X5_hand N Y V a0 = some out → W p l e rm_X5_hand s m args below meth c H locs 0 0 (MQ below (bk_Q G (some (.int out)) Y V) args s 0 0 (bk_A G)) (F0 m 0 ls []) := by
  have hx := C.1
  have hb := C.2.1
  intro V a0 H locs ls out hl hH hq
  unfold q_X5_hand at hq
  refine lv_aload_n hx hb dX5_hand_0 rfl (lv_at hl 0 rfl) ?_
  obtain ⟨hs_1, hq⟩ := bk_ck_some hq
  obtain ⟨b_2, hr_3, hq⟩ := bk_bd_some hq
  refine bk_getr C hH fl_RX5_9 hs_1 rfl hr_3 dX5_hand_1 ?_
  refine lv_iconst (v := 1) hx hb dX5_hand_4 (by decide) ?_
  obtain ⟨ha_4, hq⟩ := bk_ck_some hq
  obtain ⟨hi_5, hq⟩ := bk_ck_some hq
  refine bk_iald C hH (bk_arr ha_4) (bk_in_vp hi_5) dX5_hand_5 ?_
  cases hq
  exact bk_iret C hH dX5_hand_6
set_option maxRecDepth 100000 in
theorem c_X5_hand {l : Launch} {G : bk_G} {N : Nat} {Y : bk_Lay} {V : bk_Val} {a0 : Nat} {out : Int32} (hq : q_X5_hand N Y V a0 = some out) : Met l yX5_hand (bk_ws yX5_hand cX5_hand 1 (some FieldType.int)) rm_X5_hand (bk_Pc G [.ref a0] Y V) (bk_Q G (some (.int out)) Y V) 0 0 (bk_A G) :=
  bk_met (by decide) (Nat.le_of_ble_eq_true rfl) (fun p e s m args below meth c ls C hnm hH hl => w_X5_hand C _ _ _ _ _ _ hl hH hq)

def rm_X3_bestInch : Room := bk_rm 1 0 0 20
set_option maxRecDepth 100000 in
set_option maxHeartbeats 4000000 in
theorem w_X3_bestInch_113 (C : bk_C G p s m args meth c cX3_bestInch RX3 10 (some FieldType.int)) (k52 : bk_Val → Nat → Int32 → Int32 → Int64 → Int32 → Int64 → Int32 → Option (Int32)) (i52 : ∀ (V : bk_Val) (a0 : Nat) (x1 : Int32) (x2 : Int32) (w3 : Int64) (x5 : Int32) (w6 : Int64) (x8 : Int32) (H : Heap) (locs : List Loc) (ls : Array Slot) (out : Int32), lv_has ls 10 [(0, .ref a0), (1, .int x1), (2, .int x2), (3, .long w3), (5, .int x5), (6, .long w6), (8, .int x8)] → bk_H G Y V s.heap H locs → k52 V a0 x1 x2 w3 x5 w6 x8 = some out → W p l e rm_X3_bestInch s m args below meth c H locs 0 0 (MQ below (bk_Q G (some (.int out)) Y V) args s 0 0 (bk_A G)) (F0 m 52 ls [])) : ∀ (V : bk_Val) (a0 : Nat) (x1 : Int32) (x2 : Int32) (w3 : Int64) (x5 : Int32) (w6 : Int64) (x8 : Int32) (H : Heap) (locs : List Loc) (ls : Array Slot) (out : Int32), lv_has ls 10 [(0, .ref a0), (1, .int x1), (2, .int x2), (3, .long w3), (5, .int x5), (6, .long w6), (8, .int x8)] → bk_H G Y V s.heap H locs → q_X3_bestInch_113 N Y k52 V a0 x1 x2 w3 x5 w6 x8 = some out → W p l e rm_X3_bestInch s m args below meth c H locs 0 0 (MQ below (bk_Q G (some (.int out)) Y V) args s 0 0 (bk_A G)) (F0 m 113 ls []) := by
  have hx := C.1
  have hb := C.2.1
  intro V a0 x1 x2 w3 x5 w6 x8 H locs ls out hl hH hq
  unfold q_X3_bestInch_113 at hq
  refine lv_iinc (v := (x8 + 1)) (lv' := [(8, .int (x8 + 1)), (0, .ref a0), (1, .int x1), (2, .int x2), (3, .long w3), (5, .int x5), (6, .long w6)]) hx hb dX3_bestInch_113 hl (k := 6) rfl rfl (by decide) rfl (fun ls hl => ?_)
  refine lv_goto (tgt := 52) hx hb dX3_bestInch_116 (by decide) ?_
  exact i52 _ _ _ _ _ _ _ _ _ _ _ _ (lv_sub hl [1, 2, 3, 4, 5, 6, 0] rfl) hH hq

set_option maxRecDepth 100000 in
set_option maxHeartbeats 4000000 in
theorem w_X3_bestInch_86 (C : bk_C G p s m args meth c cX3_bestInch RX3 10 (some FieldType.int)) (k52 : bk_Val → Nat → Int32 → Int32 → Int64 → Int32 → Int64 → Int32 → Option (Int32)) (i52 : ∀ (V : bk_Val) (a0 : Nat) (x1 : Int32) (x2 : Int32) (w3 : Int64) (x5 : Int32) (w6 : Int64) (x8 : Int32) (H : Heap) (locs : List Loc) (ls : Array Slot) (out : Int32), lv_has ls 10 [(0, .ref a0), (1, .int x1), (2, .int x2), (3, .long w3), (5, .int x5), (6, .long w6), (8, .int x8)] → bk_H G Y V s.heap H locs → k52 V a0 x1 x2 w3 x5 w6 x8 = some out → W p l e rm_X3_bestInch s m args below meth c H locs 0 0 (MQ below (bk_Q G (some (.int out)) Y V) args s 0 0 (bk_A G)) (F0 m 52 ls [])) : ∀ (V : bk_Val) (a0 : Nat) (x1 : Int32) (x2 : Int32) (x5 : Int32) (w6 : Int64) (x8 : Int32) (sw0 : Int64) (sa1 : Nat) (sx2 : Int32) (H : Heap) (locs : List Loc) (ls : Array Slot) (out : Int32), lv_has ls 10 [(0, .ref a0), (1, .int x1), (2, .int x2), (5, .int x5), (6, .long w6), (8, .int x8)] → bk_H G Y V s.heap H locs → q_X3_bestInch_86 N Y k52 V a0 x1 x2 x5 w6 x8 sw0 sa1 sx2 = some out → W p l e rm_X3_bestInch s m args below meth c H locs 0 0 (MQ below (bk_Q G (some (.int out)) Y V) args s 0 0 (bk_A G)) (F0 m 86 ls [.int sx2, .ref sa1, .long sw0]) := by
  have hx := C.1
  have hb := C.2.1
  intro V a0 x1 x2 x5 w6 x8 sw0 sa1 sx2 H locs ls out hl hH hq
  unfold q_X3_bestInch_86 at hq
  obtain ⟨ha_1, hq⟩ := bk_ck_some hq
  obtain ⟨hi_2, hq⟩ := bk_ck_some hq
  refine bk_lald C hH (bk_arr ha_1) (bk_in_vp hi_2) dX3_bestInch_86 ?_
  refine lv_aload_n hx hb dX3_bestInch_87 rfl (lv_at hl 0 rfl) ?_
  obtain ⟨hs_3, hq⟩ := bk_ck_some hq
  obtain ⟨b_4, hr_5, hq⟩ := bk_bd_some hq
  refine bk_getr C hH fl_RX3_15 hs_3 rfl hr_5 dX3_bestInch_88 ?_
  refine lv_iload hx hb dX3_bestInch_91 (lv_at hl 5 rfl) ?_
  refine lv_iconst (v := 1) hx hb dX3_bestInch_93 (by decide) ?_
  refine lv_isub hx hb dX3_bestInch_94 ?_
  obtain ⟨ha_6, hq⟩ := bk_ck_some hq
  obtain ⟨hi_7, hq⟩ := bk_ck_some hq
  refine bk_lald C hH (bk_arr ha_6) (bk_in_vp hi_7) dX3_bestInch_95 ?_
  refine lv_lsub hx hb dX3_bestInch_96 ?_
  refine lv_ladd hx hb dX3_bestInch_97 ?_
  refine lv_topl (fun w3_8 e_9 => ?_)
  have hq := bk_let_eq e_9 hq
  refine lv_lstore_n (lv' := [(3, .long w3_8), (0, .ref a0), (1, .int x1), (2, .int x2), (5, .int x5), (6, .long w6), (8, .int x8)]) hx hb dX3_bestInch_98 rfl hl (by decide) rfl (fun ls hl => ?_)
  refine lv_lload_n hx hb dX3_bestInch_99 rfl (lv_at hl 0 rfl) ?_
  refine lv_lload hx hb dX3_bestInch_100 (lv_at hl 5 rfl) ?_
  refine W.lcmp hx hb dX3_bestInch_102 ?_
  refine lv_if_le (tgt := 113) hx hb dX3_bestInch_103 (by decide) (fun hc_10 => ?_) (fun hc_10 => ?_)
  · rw [if_pos hc_10] at hq
    exact w_X3_bestInch_113 C _ i52 _ _ _ _ _ _ _ _ _ _ _ _ (lv_sub hl [1, 2, 3, 0, 4, 5, 6] rfl) hH hq
  · rw [if_neg hc_10] at hq
    refine lv_lload_n hx hb dX3_bestInch_106 rfl (lv_at hl 0 rfl) ?_
    refine lv_lstore (lv' := [(6, .long w3_8), (3, .long w3_8), (0, .ref a0), (1, .int x1), (2, .int x2), (5, .int x5), (8, .int x8)]) hx hb dX3_bestInch_107 hl (by decide) rfl (fun ls hl => ?_)
    refine lv_iload hx hb dX3_bestInch_109 (lv_at hl 6 rfl) ?_
    refine lv_istore (lv' := [(5, .int x8), (6, .long w3_8), (3, .long w3_8), (0, .ref a0), (1, .int x1), (2, .int x2), (8, .int x8)]) hx hb dX3_bestInch_111 hl (by decide) rfl (fun ls hl => ?_)
    exact w_X3_bestInch_113 C _ i52 _ _ _ _ _ _ _ _ _ _ _ _ (lv_sub hl [3, 4, 5, 2, 0, 1, 6] rfl) hH hq

set_option maxRecDepth 100000 in
set_option maxHeartbeats 4000000 in
theorem w_X3_bestInch_52 (C : bk_C G p s m args meth c cX3_bestInch RX3 10 (some FieldType.int)) : ∀ (n : Nat), ∀ (V : bk_Val) (a0 : Nat) (x1 : Int32) (x2 : Int32) (w3 : Int64) (x5 : Int32) (w6 : Int64) (x8 : Int32) (H : Heap) (locs : List Loc) (ls : Array Slot) (out : Int32), lv_has ls 10 [(0, .ref a0), (1, .int x1), (2, .int x2), (3, .long w3), (5, .int x5), (6, .long w6), (8, .int x8)] → bk_H G Y V s.heap H locs → q_X3_bestInch_52 N Y n V a0 x1 x2 w3 x5 w6 x8 = some out → W p l e rm_X3_bestInch s m args below meth c H locs 0 0 (MQ below (bk_Q G (some (.int out)) Y V) args s 0 0 (bk_A G)) (F0 m 52 ls []) := by
  have hx := C.1
  have hb := C.2.1
  intro n
  induction n with
  | zero =>
    intro V a0 x1 x2 w3 x5 w6 x8 H locs ls out hl hH hq
    exact nomatch (show (none : Option (Int32)) = some out from hq)
  | succ n ih =>
    intro V a0 x1 x2 w3 x5 w6 x8 H locs ls out hl hH hq
    unfold q_X3_bestInch_52 at hq
    refine lv_iload hx hb dX3_bestInch_52 (lv_at hl 6 rfl) ?_
    refine lv_iload_n hx hb dX3_bestInch_54 rfl (lv_at hl 1 rfl) ?_
    refine lv_icmp_ge (tgt := 119) hx hb dX3_bestInch_55 (by decide) (fun hc_15 => ?_) (fun hc_15 => ?_)
    · rw [if_pos hc_15] at hq
      refine lv_iload hx hb dX3_bestInch_119 (lv_at hl 4 rfl) ?_
      cases hq
      exact bk_iret C hH dX3_bestInch_121
    · rw [if_neg hc_15] at hq
      refine lv_iload hx hb dX3_bestInch_58 (lv_at hl 6 rfl) ?_
      refine lv_iload_n hx hb dX3_bestInch_60 rfl (lv_at hl 2 rfl) ?_
      refine lv_iadd hx hb dX3_bestInch_61 ?_
      refine lv_iconst (v := 1) hx hb dX3_bestInch_62 (by decide) ?_
      refine lv_isub hx hb dX3_bestInch_63 ?_
      refine lv_istore (lv' := [(9, .int ((x8 + x2) - 1)), (0, .ref a0), (1, .int x1), (2, .int x2), (3, .long w3), (5, .int x5), (6, .long w6), (8, .int x8)]) hx hb dX3_bestInch_64 hl (by decide) rfl (fun ls hl => ?_)
      refine lv_lload_n hx hb dX3_bestInch_66 rfl (lv_at hl 4 rfl) ?_
      refine lv_aload_n hx hb dX3_bestInch_67 rfl (lv_at hl 1 rfl) ?_
      obtain ⟨hs_11, hq⟩ := bk_ck_some hq
      obtain ⟨b_12, hr_13, hq⟩ := bk_bd_some hq
      refine bk_getr C hH fl_RX3_15 hs_11 rfl hr_13 dX3_bestInch_68 ?_
      refine lv_iload hx hb dX3_bestInch_71 (lv_at hl 0 rfl) ?_
      refine lv_iload_n hx hb dX3_bestInch_73 rfl (lv_at hl 2 rfl) ?_
      refine lv_icmp_ge (tgt := 82) hx hb dX3_bestInch_74 (by decide) (fun hc_14 => ?_) (fun hc_14 => ?_)
      · rw [if_pos hc_14] at hq
        refine lv_iload hx hb dX3_bestInch_82 (lv_at hl 0 rfl) ?_
        refine lv_iload_n hx hb dX3_bestInch_84 rfl (lv_at hl 2 rfl) ?_
        refine lv_isub hx hb dX3_bestInch_85 ?_
        exact w_X3_bestInch_86 C _ ih _ _ _ _ _ _ _ _ _ _ _ _ _ _ (lv_sub hl [1, 2, 3, 5, 6, 7] rfl) hH hq
      · rw [if_neg hc_14] at hq
        refine lv_iload hx hb dX3_bestInch_77 (lv_at hl 0 rfl) ?_
        refine lv_goto (tgt := 86) hx hb dX3_bestInch_79 (by decide) ?_
        exact w_X3_bestInch_86 C _ ih _ _ _ _ _ _ _ _ _ _ _ _ _ _ (lv_sub hl [1, 2, 3, 5, 6, 7] rfl) hH hq

set_option maxRecDepth 100000 in
set_option maxHeartbeats 4000000 in
theorem w_X3_bestInch_21 (C : bk_C G p s m args meth c cX3_bestInch RX3 10 (some FieldType.int)) : ∀ (n : Nat), ∀ (V : bk_Val) (a0 : Nat) (x1 : Int32) (x2 : Int32) (w3 : Int64) (x5 : Int32) (H : Heap) (locs : List Loc) (ls : Array Slot) (out : Int32), lv_has ls 10 [(0, .ref a0), (1, .int x1), (2, .int x2), (3, .long w3), (5, .int x5)] → bk_H G Y V s.heap H locs → q_X3_bestInch_21 N Y n V a0 x1 x2 w3 x5 = some out → W p l e rm_X3_bestInch s m args below meth c H locs 0 0 (MQ below (bk_Q G (some (.int out)) Y V) args s 0 0 (bk_A G)) (F0 m 21 ls []) := by
  have hx := C.1
  have hb := C.2.1
  intro n
  induction n with
  | zero =>
    intro V a0 x1 x2 w3 x5 H locs ls out hl hH hq
    exact nomatch (show (none : Option (Int32)) = some out from hq)
  | succ n ih =>
    intro V a0 x1 x2 w3 x5 H locs ls out hl hH hq
    unfold q_X3_bestInch_21 at hq
    refine lv_iload hx hb dX3_bestInch_21 (lv_at hl 4 rfl) ?_
    refine lv_iload_n hx hb dX3_bestInch_23 rfl (lv_at hl 2 rfl) ?_
    refine lv_icmp_ge (tgt := 43) hx hb dX3_bestInch_24 (by decide) (fun hc_23 => ?_) (fun hc_23 => ?_)
    · rw [if_pos hc_23] at hq
      refine lv_iconst (v := 0) hx hb dX3_bestInch_43 (by decide) ?_
      refine lv_istore (lv' := [(5, .int 0), (0, .ref a0), (1, .int x1), (2, .int x2), (3, .long w3)]) hx hb dX3_bestInch_44 hl (by decide) rfl (fun ls hl => ?_)
      refine lv_lload_n hx hb dX3_bestInch_46 rfl (lv_at hl 4 rfl) ?_
      refine lv_lstore (lv' := [(6, .long w3), (5, .int 0), (0, .ref a0), (1, .int x1), (2, .int x2), (3, .long w3)]) hx hb dX3_bestInch_47 hl (by decide) rfl (fun ls hl => ?_)
      refine lv_iconst (v := 1) hx hb dX3_bestInch_49 (by decide) ?_
      refine lv_istore (lv' := [(8, .int 1), (6, .long w3), (5, .int 0), (0, .ref a0), (1, .int x1), (2, .int x2), (3, .long w3)]) hx hb dX3_bestInch_50 hl (by decide) rfl (fun ls hl => ?_)
      exact w_X3_bestInch_52 C _ _ _ _ _ _ _ _ _ _ _ _ _ (lv_sub hl [3, 4, 5, 6, 2, 1, 0] rfl) hH hq
    · rw [if_neg hc_23] at hq
      refine lv_lload_n hx hb dX3_bestInch_27 rfl (lv_at hl 3 rfl) ?_
      refine lv_aload_n hx hb dX3_bestInch_28 rfl (lv_at hl 0 rfl) ?_
      obtain ⟨hs_16, hq⟩ := bk_ck_some hq
      obtain ⟨b_17, hr_18, hq⟩ := bk_bd_some hq
      refine bk_getr C hH fl_RX3_15 hs_16 rfl hr_18 dX3_bestInch_29 ?_
      refine lv_iload hx hb dX3_bestInch_32 (lv_at hl 4 rfl) ?_
      obtain ⟨ha_19, hq⟩ := bk_ck_some hq
      obtain ⟨hi_20, hq⟩ := bk_ck_some hq
      refine bk_lald C hH (bk_arr ha_19) (bk_in_vp hi_20) dX3_bestInch_34 ?_
      refine lv_ladd hx hb dX3_bestInch_35 ?_
      refine lv_topl (fun w3_21 e_22 => ?_)
      have hq := bk_let_eq e_22 hq
      refine lv_lstore_n (lv' := [(3, .long w3_21), (0, .ref a0), (1, .int x1), (2, .int x2), (5, .int x5)]) hx hb dX3_bestInch_36 rfl hl (by decide) rfl (fun ls hl => ?_)
      refine lv_iinc (v := (x5 + 1)) (lv' := [(5, .int (x5 + 1)), (3, .long w3_21), (0, .ref a0), (1, .int x1), (2, .int x2)]) hx hb dX3_bestInch_37 hl (k := 4) rfl rfl (by decide) rfl (fun ls hl => ?_)
      refine lv_goto (tgt := 21) hx hb dX3_bestInch_40 (by decide) ?_
      exact ih _ _ _ _ _ _ _ _ _ _ (lv_sub hl [2, 3, 4, 1, 0] rfl) hH hq

set_option maxRecDepth 100000 in
set_option maxHeartbeats 4000000 in
theorem w_X3_bestInch (C : bk_C G p s m args meth c cX3_bestInch RX3 10 (some FieldType.int)) : ∀ (V : bk_Val) (a0 : Nat) (H : Heap) (locs : List Loc) (ls : Array Slot) (out : Int32), lv_has ls 10 [(0, .ref a0)] → bk_H G Y V s.heap H locs → q_X3_bestInch N Y V a0 = some out → W p l e rm_X3_bestInch s m args below meth c H locs 0 0 (MQ below (bk_Q G (some (.int out)) Y V) args s 0 0 (bk_A G)) (F0 m 0 ls []) := by
  have hx := C.1
  have hb := C.2.1
  intro V a0 H locs ls out hl hH hq
  unfold q_X3_bestInch at hq
  refine lv_aload_n hx hb dX3_bestInch_0 rfl (lv_at hl 0 rfl) ?_
  obtain ⟨hs_24, hq⟩ := bk_ck_some hq
  rcases bk_nl_cases hq with ⟨hr_26, hq⟩ | ⟨b_25, hr_26, hq⟩
  · refine bk_getn C hH fl_RX3_29 hs_24 rfl hr_26 dX3_bestInch_1 ?_
    exact nomatch (show (none : Option (Int32)) = some out from hq)
  · refine bk_getr C hH fl_RX3_29 hs_24 rfl hr_26 dX3_bestInch_1 ?_
    obtain ⟨hs_29, hq⟩ := bk_ck_some hq
    obtain ⟨r_28, hr_27, hq⟩ := bk_bd_some hq
    refine bk_callV (rest := []) (As := []) (ro := (some (.int r_28))) (Y1 := Y) (V1 := V) C hH hl.1 (c_X5_inches hr_27) mc_X5_inches mv_X5_inches lk_RX3_45 hs_29 rfl rfl ⟨rfl, rfl⟩ ⟨by decide, by decide⟩ rfl (Nat.le_of_ble_eq_true rfl) dX3_bestInch_4 ⟨by decide, by decide⟩ (fun H locs hH => ?_)
    refine lv_istore_n (lv' := [(1, .int r_28), (0, .ref a0)]) hx hb dX3_bestInch_7 rfl hl (by decide) rfl (fun ls hl => ?_)
    refine lv_aload_n hx hb dX3_bestInch_8 rfl (lv_at hl 1 rfl) ?_
    refine bk_getr C hH fl_RX3_29 hs_24 rfl hr_26 dX3_bestInch_9 ?_
    obtain ⟨r_31, hr_30, hq⟩ := bk_bd_some hq
    refine bk_callV (rest := []) (As := []) (ro := (some (.int r_31))) (Y1 := Y) (V1 := V) C hH hl.1 (c_X5_hand hr_30) mc_X5_hand mv_X5_hand lk_RX3_83 hs_29 rfl rfl ⟨rfl, rfl⟩ ⟨by decide, by decide⟩ rfl (Nat.le_of_ble_eq_true rfl) dX3_bestInch_12 ⟨by decide, by decide⟩ (fun H locs hH => ?_)
    refine lv_istore_n (lv' := [(2, .int r_31), (1, .int r_28), (0, .ref a0)]) hx hb dX3_bestInch_15 rfl hl (by decide) rfl (fun ls hl => ?_)
    refine lv_lconst (v := 0) hx hb dX3_bestInch_16 (by decide) ?_
    refine lv_lstore_n (lv' := [(3, .long 0), (2, .int r_31), (1, .int r_28), (0, .ref a0)]) hx hb dX3_bestInch_17 rfl hl (by decide) rfl (fun ls hl => ?_)
    refine lv_iconst (v := 0) hx hb dX3_bestInch_18 (by decide) ?_
    refine lv_istore (lv' := [(5, .int 0), (3, .long 0), (2, .int r_31), (1, .int r_28), (0, .ref a0)]) hx hb dX3_bestInch_19 hl (by decide) rfl (fun ls hl => ?_)
    exact w_X3_bestInch_21 C _ _ _ _ _ _ _ _ _ _ _ (lv_sub hl [4, 3, 2, 1, 0] rfl) hH hq
set_option maxRecDepth 100000 in
theorem c_X3_bestInch {l : Launch} {G : bk_G} {N : Nat} {Y : bk_Lay} {V : bk_Val} {a0 : Nat} {out : Int32} (hq : q_X3_bestInch N Y V a0 = some out) : Met l yX3_bestInch (bk_ws yX3_bestInch cX3_bestInch 10 (some FieldType.int)) rm_X3_bestInch (bk_Pc G [.ref a0] Y V) (bk_Q G (some (.int out)) Y V) 0 0 (bk_A G) :=
  bk_met (by decide) (Nat.le_of_ble_eq_true rfl) (fun p e s m args below meth c ls C hnm hH hl => w_X3_bestInch C _ _ _ _ _ _ hl hH hq)

def rm_X5_round : Room := bk_rm 1 0 0 22
set_option maxRecDepth 100000 in
set_option maxHeartbeats 4000000 in
theorem w_X5_round (C : bk_C G p s m args meth c cX5_round RX5 2 (some FieldType.int)) : ∀ (V : bk_Val) (a0 : Nat) (x1 : Int32) (H : Heap) (locs : List Loc) (ls : Array Slot) (out : Int32), lv_has ls 2 [(0, .ref a0), (1, .int x1)] → bk_H G Y V s.heap H locs → q_X5_round N Y V a0 x1 = some out → W p l e rm_X5_round s m args below meth c H locs 0 0 (MQ below (bk_Q G (some (.int out)) Y V) args s 0 0 (bk_A G)) (F0 m 0 ls []) := by
  have hx := C.1
  have hb := C.2.1
  intro V a0 x1 H locs ls out hl hH hq
  unfold q_X5_round at hq
  refine lv_iload_n hx hb dX5_round_0 rfl (lv_at hl 1 rfl) ?_
  refine lv_aload_n hx hb dX5_round_1 rfl (lv_at hl 0 rfl) ?_
  obtain ⟨hs_1, hq⟩ := bk_ck_some hq
  obtain ⟨b_2, hr_3, hq⟩ := bk_bd_some hq
  refine bk_getr C hH fl_RX5_9 hs_1 rfl hr_3 dX5_round_2 ?_
  refine lv_iconst (v := 0) hx hb dX5_round_5 (by decide) ?_
  obtain ⟨ha_4, hq⟩ := bk_ck_some hq
  obtain ⟨hi_5, hq⟩ := bk_ck_some hq
  refine bk_iald C hH (bk_arr ha_4) (bk_in_vp hi_5) dX5_round_6 ?_
  refine lv_bipush (v := 12) hx hb dX5_round_7 (by decide) ?_
  obtain ⟨r_7, hr_6, hq⟩ := bk_bd_some hq
  refine bk_callS (rest := [.int x1]) (As := [.int (bk_rI V b_2 (0 : Int32).toNatClampNeg), .int 12]) (ro := (some (.int r_7))) (Y1 := Y) (V1 := V) C hH hl.1 (c_J9_max_7cf53 hr_6) mc_J9_max_7cf53 st_J9_max_7cf53 lk_RX5_62 rfl ⟨rfl, rfl⟩ ⟨by decide, by decide⟩ rfl (Nat.le_of_ble_eq_true rfl) dX5_round_9 ⟨by decide, by decide⟩ (fun H locs hH => ?_)
  obtain ⟨r_9, hr_8, hq⟩ := bk_bd_some hq
  refine bk_callS (rest := []) (As := [.int x1, .int r_7]) (ro := (some (.int r_9))) (Y1 := Y) (V1 := V) C hH hl.1 (c_J9_floorMod_7cf53 hr_8) mc_J9_floorMod_7cf53 st_J9_floorMod_7cf53 lk_RX5_68 rfl ⟨rfl, rfl⟩ ⟨by decide, by decide⟩ rfl (Nat.le_of_ble_eq_true rfl) dX5_round_12 ⟨by decide, by decide⟩ (fun H locs hH => ?_)
  cases hq
  exact bk_iret C hH dX5_round_15
set_option maxRecDepth 100000 in
theorem c_X5_round {l : Launch} {G : bk_G} {N : Nat} {Y : bk_Lay} {V : bk_Val} {a0 : Nat} {x1 : Int32} {out : Int32} (hq : q_X5_round N Y V a0 x1 = some out) : Met l yX5_round (bk_ws yX5_round cX5_round 2 (some FieldType.int)) rm_X5_round (bk_Pc G [.ref a0, .int x1] Y V) (bk_Q G (some (.int out)) Y V) 0 0 (bk_A G) :=
  bk_met (by decide) (Nat.le_of_ble_eq_true rfl) (fun p e s m args below meth c ls C hnm hH hl => w_X5_round C _ _ _ _ _ _ _ hl hH hq)

def rm_X5_miss : Room := bk_rm 0 0 0 0
set_option maxRecDepth 100000 in
set_option maxHeartbeats 4000000 in
theorem w_X5_miss (C : bk_C G p s m args meth c cX5_miss RX5 1 (some FieldType.int)) : ∀ (V : bk_Val) (a0 : Nat) (H : Heap) (locs : List Loc) (ls : Array Slot) (out : Int32), lv_has ls 1 [(0, .ref a0)] → bk_H G Y V s.heap H locs → q_X5_miss N Y V a0 = some out → W p l e rm_X5_miss s m args below meth c H locs 0 0 (MQ below (bk_Q G (some (.int out)) Y V) args s 0 0 (bk_A G)) (F0 m 0 ls []) := by
  have hx := C.1
  have hb := C.2.1
  intro V a0 H locs ls out hl hH hq
  unfold q_X5_miss at hq
  refine lv_aload_n hx hb dX5_miss_0 rfl (lv_at hl 0 rfl) ?_
  obtain ⟨hs_1, hq⟩ := bk_ck_some hq
  obtain ⟨b_2, hr_3, hq⟩ := bk_bd_some hq
  refine bk_getr C hH fl_RX5_9 hs_1 rfl hr_3 dX5_miss_1 ?_
  refine lv_iconst (v := 2) hx hb dX5_miss_4 (by decide) ?_
  obtain ⟨ha_4, hq⟩ := bk_ck_some hq
  obtain ⟨hi_5, hq⟩ := bk_ck_some hq
  refine bk_iald C hH (bk_arr ha_4) (bk_in_vp hi_5) dX5_miss_5 ?_
  cases hq
  exact bk_iret C hH dX5_miss_6
set_option maxRecDepth 100000 in
theorem c_X5_miss {l : Launch} {G : bk_G} {N : Nat} {Y : bk_Lay} {V : bk_Val} {a0 : Nat} {out : Int32} (hq : q_X5_miss N Y V a0 = some out) : Met l yX5_miss (bk_ws yX5_miss cX5_miss 1 (some FieldType.int)) rm_X5_miss (bk_Pc G [.ref a0] Y V) (bk_Q G (some (.int out)) Y V) 0 0 (bk_A G) :=
  bk_met (by decide) (Nat.le_of_ble_eq_true rfl) (fun p e s m args below meth c ls C hnm hH hl => w_X5_miss C _ _ _ _ _ _ hl hH hq)

def rm_X0_lessenInch : Room := bk_rm 0 0 0 0
set_option maxRecDepth 100000 in
set_option maxHeartbeats 4000000 in
theorem w_X0_lessenInch_66 (C : bk_C G p s m args meth c cX0_lessenInch RX0 8 (none : Option FieldType)) (k5 : bk_Val → Nat → Int32 → Int32 → Int32 → Int32 → Option (bk_Val)) (i5 : ∀ (V : bk_Val) (a0 : Nat) (x1 : Int32) (x2 : Int32) (x3 : Int32) (x4 : Int32) (H : Heap) (locs : List Loc) (ls : Array Slot) (out : bk_Val), lv_has ls 8 [(0, .ref a0), (1, .int x1), (2, .int x2), (3, .int x3), (4, .int x4)] → bk_H G Y V s.heap H locs → k5 V a0 x1 x2 x3 x4 = some out → W p l e rm_X0_lessenInch s m args below meth c H locs 0 0 (MQ below (bk_Q G none Y out) args s 0 0 (bk_A G)) (F0 m 5 ls [])) : ∀ (V : bk_Val) (a0 : Nat) (x1 : Int32) (x2 : Int32) (x3 : Int32) (x4 : Int32) (w5 : Int64) (H : Heap) (locs : List Loc) (ls : Array Slot) (out : bk_Val), lv_has ls 8 [(0, .ref a0), (1, .int x1), (2, .int x2), (3, .int x3), (4, .int x4), (5, .long w5)] → bk_H G Y V s.heap H locs → q_X0_lessenInch_66 N Y k5 V a0 x1 x2 x3 x4 w5 = some out → W p l e rm_X0_lessenInch s m args below meth c H locs 0 0 (MQ below (bk_Q G none Y out) args s 0 0 (bk_A G)) (F0 m 66 ls []) := by
  have hx := C.1
  have hb := C.2.1
  intro V a0 x1 x2 x3 x4 w5 H locs ls out hl hH hq
  unfold q_X0_lessenInch_66 at hq
  refine lv_aload_n hx hb dX0_lessenInch_66 rfl (lv_at hl 0 rfl) ?_
  refine lv_iload hx hb dX0_lessenInch_67 (lv_at hl 4 rfl) ?_
  refine lv_lload hx hb dX0_lessenInch_69 (lv_at hl 5 rfl) ?_
  obtain ⟨ha_1, hq⟩ := bk_ck_some hq
  obtain ⟨hi_2, hq⟩ := bk_ck_some hq
  refine bk_last C hH (bk_arr ha_1) (bk_in_vp hi_2) dX0_lessenInch_71 (fun V_3 H locs e_4 hH => ?_)
  have hq := bk_let_eq e_4 hq
  refine lv_iinc (v := (x4 + 1)) (lv' := [(4, .int (x4 + 1)), (0, .ref a0), (1, .int x1), (2, .int x2), (3, .int x3), (5, .long w5)]) hx hb dX0_lessenInch_72 hl (k := 4) rfl rfl (by decide) rfl (fun ls hl => ?_)
  refine lv_goto (tgt := 5) hx hb dX0_lessenInch_75 (by decide) ?_
  exact i5 _ _ _ _ _ _ _ _ _ _ (lv_sub hl [1, 2, 3, 4, 0] rfl) hH hq

set_option maxRecDepth 100000 in
set_option maxHeartbeats 4000000 in
theorem w_X0_lessenInch_36 (C : bk_C G p s m args meth c cX0_lessenInch RX0 8 (none : Option FieldType)) (k5 : bk_Val → Nat → Int32 → Int32 → Int32 → Int32 → Option (bk_Val)) (i5 : ∀ (V : bk_Val) (a0 : Nat) (x1 : Int32) (x2 : Int32) (x3 : Int32) (x4 : Int32) (H : Heap) (locs : List Loc) (ls : Array Slot) (out : bk_Val), lv_has ls 8 [(0, .ref a0), (1, .int x1), (2, .int x2), (3, .int x3), (4, .int x4)] → bk_H G Y V s.heap H locs → k5 V a0 x1 x2 x3 x4 = some out → W p l e rm_X0_lessenInch s m args below meth c H locs 0 0 (MQ below (bk_Q G none Y out) args s 0 0 (bk_A G)) (F0 m 5 ls [])) : ∀ (n : Nat), ∀ (V : bk_Val) (a0 : Nat) (x1 : Int32) (x2 : Int32) (x3 : Int32) (x4 : Int32) (w5 : Int64) (x7 : Int32) (H : Heap) (locs : List Loc) (ls : Array Slot) (out : bk_Val), lv_has ls 8 [(0, .ref a0), (1, .int x1), (2, .int x2), (3, .int x3), (4, .int x4), (5, .long w5), (7, .int x7)] → bk_H G Y V s.heap H locs → q_X0_lessenInch_36 N Y k5 n V a0 x1 x2 x3 x4 w5 x7 = some out → W p l e rm_X0_lessenInch s m args below meth c H locs 0 0 (MQ below (bk_Q G none Y out) args s 0 0 (bk_A G)) (F0 m 36 ls []) := by
  have hx := C.1
  have hb := C.2.1
  intro n
  induction n with
  | zero =>
    intro V a0 x1 x2 x3 x4 w5 x7 H locs ls out hl hH hq
    exact nomatch (show (none : Option (bk_Val)) = some out from hq)
  | succ n ih =>
    intro V a0 x1 x2 x3 x4 w5 x7 H locs ls out hl hH hq
    unfold q_X0_lessenInch_36 at hq
    refine lv_iload hx hb dX0_lessenInch_36 (lv_at hl 6 rfl) ?_
    refine lv_iload_n hx hb dX0_lessenInch_38 rfl (lv_at hl 3 rfl) ?_
    refine lv_icmp_ge (tgt := 66) hx hb dX0_lessenInch_39 (by decide) (fun hc_8 => ?_) (fun hc_8 => ?_)
    · rw [if_pos hc_8] at hq
      exact w_X0_lessenInch_66 C _ i5 _ _ _ _ _ _ _ _ _ _ _ (lv_sub hl [0, 1, 2, 3, 4, 5] rfl) hH hq
    · rw [if_neg hc_8] at hq
      refine lv_lload hx hb dX0_lessenInch_42 (lv_at hl 5 rfl) ?_
      refine lv_lconst (v := 0) hx hb dX0_lessenInch_44 (by decide) ?_
      refine W.lcmp hx hb dX0_lessenInch_45 ?_
      refine lv_if_le (tgt := 66) hx hb dX0_lessenInch_46 (by decide) (fun hc_7 => ?_) (fun hc_7 => ?_)
      · rw [if_pos hc_7] at hq
        exact w_X0_lessenInch_66 C _ i5 _ _ _ _ _ _ _ _ _ _ _ (lv_sub hl [0, 1, 2, 3, 4, 5] rfl) hH hq
      · rw [if_neg hc_7] at hq
        refine lv_lload hx hb dX0_lessenInch_49 (lv_at hl 5 rfl) ?_
        refine lv_iload_n hx hb dX0_lessenInch_51 rfl (lv_at hl 2 rfl) ?_
        refine bk_i2l hx hb dX0_lessenInch_52 ?_
        refine lv_lmul hx hb dX0_lessenInch_53 ?_
        refine bk_ldc2 C kl_RX0_25 dX0_lessenInch_54 ?_
        refine lv_ldiv hx hb dX0_lessenInch_57 (by decide) ?_
        refine lv_topl (fun w5_5 e_6 => ?_)
        have hq := bk_let_eq e_6 hq
        refine lv_lstore (lv' := [(5, .long w5_5), (0, .ref a0), (1, .int x1), (2, .int x2), (3, .int x3), (4, .int x4), (7, .int x7)]) hx hb dX0_lessenInch_58 hl (by decide) rfl (fun ls hl => ?_)
        refine lv_iinc (v := (x7 + 1)) (lv' := [(7, .int (x7 + 1)), (5, .long w5_5), (0, .ref a0), (1, .int x1), (2, .int x2), (3, .int x3), (4, .int x4)]) hx hb dX0_lessenInch_60 hl (k := 6) rfl rfl (by decide) rfl (fun ls hl => ?_)
        refine lv_goto (tgt := 36) hx hb dX0_lessenInch_63 (by decide) ?_
        exact ih _ _ _ _ _ _ _ _ _ _ _ _ (lv_sub hl [2, 3, 4, 5, 6, 1, 0] rfl) hH hq

set_option maxRecDepth 100000 in
set_option maxHeartbeats 4000000 in
theorem w_X0_lessenInch_5 (C : bk_C G p s m args meth c cX0_lessenInch RX0 8 (none : Option FieldType)) : ∀ (n : Nat), ∀ (V : bk_Val) (a0 : Nat) (x1 : Int32) (x2 : Int32) (x3 : Int32) (x4 : Int32) (H : Heap) (locs : List Loc) (ls : Array Slot) (out : bk_Val), lv_has ls 8 [(0, .ref a0), (1, .int x1), (2, .int x2), (3, .int x3), (4, .int x4)] → bk_H G Y V s.heap H locs → q_X0_lessenInch_5 N Y n V a0 x1 x2 x3 x4 = some out → W p l e rm_X0_lessenInch s m args below meth c H locs 0 0 (MQ below (bk_Q G none Y out) args s 0 0 (bk_A G)) (F0 m 5 ls []) := by
  have hx := C.1
  have hb := C.2.1
  intro n
  induction n with
  | zero =>
    intro V a0 x1 x2 x3 x4 H locs ls out hl hH hq
    exact nomatch (show (none : Option (bk_Val)) = some out from hq)
  | succ n ih =>
    intro V a0 x1 x2 x3 x4 H locs ls out hl hH hq
    unfold q_X0_lessenInch_5 at hq
    refine lv_iload hx hb dX0_lessenInch_5 (lv_at hl 4 rfl) ?_
    refine lv_if_lt (tgt := 78) hx hb dX0_lessenInch_7 (by decide) (fun hc_15 => ?_) (fun hc_15 => ?_)
    · rw [if_pos hc_15] at hq
      cases hq
      exact bk_vret C hH dX0_lessenInch_78
    · rw [if_neg hc_15] at hq
      refine lv_iload hx hb dX0_lessenInch_10 (lv_at hl 4 rfl) ?_
      refine lv_iconst (v := 4) hx hb dX0_lessenInch_12 (by decide) ?_
      refine lv_iload_n hx hb dX0_lessenInch_13 rfl (lv_at hl 1 rfl) ?_
      refine lv_imul hx hb dX0_lessenInch_14 ?_
      refine lv_iconst (v := 4) hx hb dX0_lessenInch_15 (by decide) ?_
      refine lv_iadd hx hb dX0_lessenInch_16 ?_
      refine lv_icmp_ge (tgt := 78) hx hb dX0_lessenInch_17 (by decide) (fun hc_14 => ?_) (fun hc_14 => ?_)
      · rw [if_pos hc_14] at hq
        cases hq
        exact bk_vret C hH dX0_lessenInch_78
      · rw [if_neg hc_14] at hq
        refine lv_iload hx hb dX0_lessenInch_20 (lv_at hl 4 rfl) ?_
        refine lv_aload_n hx hb dX0_lessenInch_22 rfl (lv_at hl 0 rfl) ?_
        obtain ⟨ha_9, hq⟩ := bk_ck_some hq
        refine bk_alen C hH (bk_arr ha_9) (by decide) dX0_lessenInch_23 ?_
        refine lv_icmp_ge (tgt := 78) hx hb dX0_lessenInch_24 (by decide) (fun hc_13 => ?_) (fun hc_13 => ?_)
        · rw [if_pos hc_13] at hq
          cases hq
          exact bk_vret C hH dX0_lessenInch_78
        · rw [if_neg hc_13] at hq
          refine lv_aload_n hx hb dX0_lessenInch_27 rfl (lv_at hl 0 rfl) ?_
          refine lv_iload hx hb dX0_lessenInch_28 (lv_at hl 4 rfl) ?_
          obtain ⟨hi_10, hq⟩ := bk_ck_some hq
          refine bk_lald C hH (bk_arr ha_9) (bk_in_vp hi_10) dX0_lessenInch_30 ?_
          refine lv_topl (fun w5_11 e_12 => ?_)
          have hq := bk_let_eq e_12 hq
          refine lv_lstore (lv' := [(5, .long w5_11), (0, .ref a0), (1, .int x1), (2, .int x2), (3, .int x3), (4, .int x4)]) hx hb dX0_lessenInch_31 hl (by decide) rfl (fun ls hl => ?_)
          refine lv_iconst (v := 0) hx hb dX0_lessenInch_33 (by decide) ?_
          refine lv_istore (lv' := [(7, .int 0), (5, .long w5_11), (0, .ref a0), (1, .int x1), (2, .int x2), (3, .int x3), (4, .int x4)]) hx hb dX0_lessenInch_34 hl (by decide) rfl (fun ls hl => ?_)
          exact w_X0_lessenInch_36 C _ ih _ _ _ _ _ _ _ _ _ _ _ _ _ (lv_sub hl [2, 3, 4, 5, 6, 1, 0] rfl) hH hq

set_option maxRecDepth 100000 in
set_option maxHeartbeats 4000000 in
theorem w_X0_lessenInch (C : bk_C G p s m args meth c cX0_lessenInch RX0 8 (none : Option FieldType)) : ∀ (V : bk_Val) (a0 : Nat) (x1 : Int32) (x2 : Int32) (x3 : Int32) (H : Heap) (locs : List Loc) (ls : Array Slot) (out : bk_Val), lv_has ls 8 [(0, .ref a0), (1, .int x1), (2, .int x2), (3, .int x3)] → bk_H G Y V s.heap H locs → q_X0_lessenInch N Y V a0 x1 x2 x3 = some out → W p l e rm_X0_lessenInch s m args below meth c H locs 0 0 (MQ below (bk_Q G none Y out) args s 0 0 (bk_A G)) (F0 m 0 ls []) := by
  have hx := C.1
  have hb := C.2.1
  intro V a0 x1 x2 x3 H locs ls out hl hH hq
  unfold q_X0_lessenInch at hq
  refine lv_iconst (v := 4) hx hb dX0_lessenInch_0 (by decide) ?_
  refine lv_iload_n hx hb dX0_lessenInch_1 rfl (lv_at hl 1 rfl) ?_
  refine lv_imul hx hb dX0_lessenInch_2 ?_
  refine lv_istore (lv' := [(4, .int (4 * x1)), (0, .ref a0), (1, .int x1), (2, .int x2), (3, .int x3)]) hx hb dX0_lessenInch_3 hl (by decide) rfl (fun ls hl => ?_)
  exact w_X0_lessenInch_5 C _ _ _ _ _ _ _ _ _ _ _ (lv_sub hl [1, 2, 3, 4, 0] rfl) hH hq
set_option maxRecDepth 100000 in
theorem c_X0_lessenInch {l : Launch} {G : bk_G} {N : Nat} {Y : bk_Lay} {V : bk_Val} {a0 : Nat} {x1 : Int32} {x2 : Int32} {x3 : Int32} {out : bk_Val} (hq : q_X0_lessenInch N Y V a0 x1 x2 x3 = some out) : Met l yX0_lessenInch (bk_ws yX0_lessenInch cX0_lessenInch 8 (none : Option FieldType)) rm_X0_lessenInch (bk_Pc G [.ref a0, .int x1, .int x2, .int x3] Y V) (bk_Q G none Y out) 0 0 (bk_A G) :=
  bk_met (by decide) (Nat.le_of_ble_eq_true rfl) (fun p e s m args below meth c ls C hnm hH hl => w_X0_lessenInch C _ _ _ _ _ _ _ _ _ hl hH hq)

def rm_X3_dipAt : Room := bk_rm 2 0 0 43
set_option maxRecDepth 100000 in
set_option maxHeartbeats 4000000 in
theorem w_X3_dipAt_5 (C : bk_C G p s m args meth c cX3_dipAt RX3 8 (some FieldType.long)) : ∀ (n : Nat), ∀ (V : bk_Val) (a0 : Nat) (x1 : Int32) (w2 : Int64) (x4 : Int32) (H : Heap) (locs : List Loc) (ls : Array Slot) (out : Int64 × bk_Val), lv_has ls 8 [(0, .ref a0), (1, .int x1), (2, .long w2), (4, .int x4)] → bk_H G Y V s.heap H locs → q_X3_dipAt_5 N Y n V a0 x1 w2 x4 = some out → W p l e rm_X3_dipAt s m args below meth c H locs 0 0 (MQ below (bk_Q G (some (.long out.1)) Y out.2) args s 0 0 (bk_A G)) (F0 m 5 ls []) := by
  have hx := C.1
  have hb := C.2.1
  intro n
  induction n with
  | zero =>
    intro V a0 x1 w2 x4 H locs ls out hl hH hq
    exact nomatch (show (none : Option (Int64 × bk_Val)) = some out from hq)
  | succ n ih =>
    intro V a0 x1 w2 x4 H locs ls out hl hH hq
    unfold q_X3_dipAt_5 at hq
    refine lv_iload hx hb dX3_dipAt_5 (lv_at hl 3 rfl) ?_
    refine lv_aload_n hx hb dX3_dipAt_7 rfl (lv_at hl 0 rfl) ?_
    obtain ⟨hs_1, hq⟩ := bk_ck_some hq
    rcases bk_nl_cases hq with ⟨hr_3, hq⟩ | ⟨b_2, hr_3, hq⟩
    · refine bk_getn C hH fl_RX3_29 hs_1 rfl hr_3 dX3_dipAt_8 ?_
      exact nomatch (show (none : Option (Int64 × bk_Val)) = some out from hq)
    · refine bk_getr C hH fl_RX3_29 hs_1 rfl hr_3 dX3_dipAt_8 ?_
      obtain ⟨hs_6, hq⟩ := bk_ck_some hq
      obtain ⟨r_5, hr_4, hq⟩ := bk_bd_some hq
      refine bk_callV (rest := [.int x4]) (As := []) (ro := (some (.int r_5))) (Y1 := Y) (V1 := V) C hH hl.1 (c_X5_hand hr_4) mc_X5_hand mv_X5_hand lk_RX3_83 hs_6 rfl rfl ⟨rfl, rfl⟩ ⟨by decide, by decide⟩ rfl (Nat.le_of_ble_eq_true rfl) dX3_dipAt_11 ⟨by decide, by decide⟩ (fun H locs hH => ?_)
      refine lv_icmp_ge (tgt := 86) hx hb dX3_dipAt_14 (by decide) (fun hc_26 => ?_) (fun hc_26 => ?_)
      · rw [if_pos hc_26] at hq
        refine lv_lload_n hx hb dX3_dipAt_86 rfl (lv_at hl 2 rfl) ?_
        cases hq
        exact bk_lret C hH dX3_dipAt_87
      · rw [if_neg hc_26] at hq
        refine lv_aload_n hx hb dX3_dipAt_17 rfl (lv_at hl 0 rfl) ?_
        refine bk_getr C hH fl_RX3_29 hs_1 rfl hr_3 dX3_dipAt_18 ?_
        refine lv_iload_n hx hb dX3_dipAt_21 rfl (lv_at hl 1 rfl) ?_
        refine lv_iload hx hb dX3_dipAt_22 (lv_at hl 3 rfl) ?_
        refine lv_iadd hx hb dX3_dipAt_24 ?_
        obtain ⟨r_8, hr_7, hq⟩ := bk_bd_some hq
        refine bk_callV (rest := []) (As := [.int (x1 + x4)]) (ro := (some (.int r_8))) (Y1 := Y) (V1 := V) C hH hl.1 (c_X5_round hr_7) mc_X5_round mv_X5_round lk_RX3_86 hs_6 rfl rfl ⟨rfl, rfl⟩ ⟨by decide, by decide⟩ rfl (Nat.le_of_ble_eq_true rfl) dX3_dipAt_25 ⟨by decide, by decide⟩ (fun H locs hH => ?_)
        refine lv_istore (lv' := [(5, .int r_8), (0, .ref a0), (1, .int x1), (2, .long w2), (4, .int x4)]) hx hb dX3_dipAt_28 hl (by decide) rfl (fun ls hl => ?_)
        refine lv_aload_n hx hb dX3_dipAt_30 rfl (lv_at hl 1 rfl) ?_
        obtain ⟨b_9, hr_10, hq⟩ := bk_bd_some hq
        refine bk_getr C hH fl_RX3_9 hs_1 rfl hr_10 dX3_dipAt_31 ?_
        refine lv_iload hx hb dX3_dipAt_34 (lv_at hl 0 rfl) ?_
        refine lv_aload_n hx hb dX3_dipAt_36 rfl (lv_at hl 1 rfl) ?_
        refine bk_getr C hH fl_RX3_29 hs_1 rfl hr_3 dX3_dipAt_37 ?_
        obtain ⟨r_12, hr_11, hq⟩ := bk_bd_some hq
        refine bk_callV (rest := [.int r_8, .ref b_9]) (As := []) (ro := (some (.int r_12))) (Y1 := Y) (V1 := V) C hH hl.1 (c_X5_miss hr_11) mc_X5_miss mv_X5_miss lk_RX3_89 hs_6 rfl rfl ⟨rfl, rfl⟩ ⟨by decide, by decide⟩ rfl (Nat.le_of_ble_eq_true rfl) dX3_dipAt_40 ⟨by decide, by decide⟩ (fun H locs hH => ?_)
        refine lv_iconst (v := 1) hx hb dX3_dipAt_43 (by decide) ?_
        obtain ⟨V_14, hr_13, hq⟩ := bk_bd_some hq
        refine bk_callS (rest := []) (As := [.ref b_9, .int r_8, .int r_12, .int 1]) (ro := none) (Y1 := Y) (V1 := V_14) C hH hl.1 (c_X0_lessenInch hr_13) mc_X0_lessenInch st_X0_lessenInch lk_RX3_92 rfl ⟨rfl, rfl⟩ ⟨by decide, by decide⟩ rfl (Nat.le_of_ble_eq_true rfl) dX3_dipAt_44 ⟨by decide, by decide⟩ (fun H locs hH => ?_)
        refine lv_aload_n hx hb dX3_dipAt_47 rfl (lv_at hl 1 rfl) ?_
        refine bk_getr C hH fl_RX3_9 hs_1 rfl hr_10 dX3_dipAt_48 ?_
        refine lv_iload hx hb dX3_dipAt_51 (lv_at hl 0 rfl) ?_
        obtain ⟨r_16, hr_15, hq⟩ := bk_bd_some hq
        refine bk_callS (rest := []) (As := [.ref b_9, .int r_8]) (ro := (some (.long r_16))) (Y1 := Y) (V1 := V_14) C hH hl.1 (c_X0_totalOfInch hr_15) mc_X0_totalOfInch st_X0_totalOfInch lk_RX3_50 rfl ⟨rfl, rfl⟩ ⟨by decide, by decide⟩ rfl (Nat.le_of_ble_eq_true rfl) dX3_dipAt_53 ⟨by decide, by decide⟩ (fun H locs hH => ?_)
        refine lv_lstore (lv' := [(6, .long r_16), (5, .int r_8), (0, .ref a0), (1, .int x1), (2, .long w2), (4, .int x4)]) hx hb dX3_dipAt_56 hl (by decide) rfl (fun ls hl => ?_)
        refine lv_lload_n hx hb dX3_dipAt_58 rfl (lv_at hl 4 rfl) ?_
        refine lv_aload_n hx hb dX3_dipAt_59 rfl (lv_at hl 2 rfl) ?_
        obtain ⟨b_17, hr_18, hq⟩ := bk_bd_some hq
        refine bk_getr C hH fl_RX3_15 hs_1 rfl hr_18 dX3_dipAt_60 ?_
        refine lv_iload hx hb dX3_dipAt_63 (lv_at hl 1 rfl) ?_
        obtain ⟨ha_19, hq⟩ := bk_ck_some hq
        obtain ⟨hi_20, hq⟩ := bk_ck_some hq
        refine bk_lald C hH (bk_arr ha_19) (bk_in_vp hi_20) dX3_dipAt_65 ?_
        refine lv_lload hx hb dX3_dipAt_66 (lv_at hl 0 rfl) ?_
        refine lv_lsub hx hb dX3_dipAt_68 ?_
        refine lv_ladd hx hb dX3_dipAt_69 ?_
        refine lv_topl (fun w2_21 e_22 => ?_)
        have hq := bk_let_eq e_22 hq
        refine lv_lstore_n (lv' := [(2, .long w2_21), (6, .long r_16), (5, .int r_8), (0, .ref a0), (1, .int x1), (4, .int x4)]) hx hb dX3_dipAt_70 rfl hl (by decide) rfl (fun ls hl => ?_)
        refine lv_aload_n hx hb dX3_dipAt_71 rfl (lv_at hl 3 rfl) ?_
        refine bk_getr C hH fl_RX3_15 hs_1 rfl hr_18 dX3_dipAt_72 ?_
        refine lv_iload hx hb dX3_dipAt_75 (lv_at hl 2 rfl) ?_
        refine lv_lload hx hb dX3_dipAt_77 (lv_at hl 1 rfl) ?_
        obtain ⟨hi_23, hq⟩ := bk_ck_some hq
        refine bk_last C hH (bk_arr ha_19) (bk_in_vp hi_23) dX3_dipAt_79 (fun V_24 H locs e_25 hH => ?_)
        have hq := bk_let_eq e_25 hq
        refine lv_iinc (v := (x4 + 1)) (lv' := [(4, .int (x4 + 1)), (2, .long w2_21), (6, .long r_16), (5, .int r_8), (0, .ref a0), (1, .int x1)]) hx hb dX3_dipAt_80 hl (k := 5) rfl rfl (by decide) rfl (fun ls hl => ?_)
        refine lv_goto (tgt := 5) hx hb dX3_dipAt_83 (by decide) ?_
        exact ih _ _ _ _ _ _ _ _ _ (lv_sub hl [4, 5, 1, 0] rfl) hH hq

set_option maxRecDepth 100000 in
set_option maxHeartbeats 4000000 in
theorem w_X3_dipAt (C : bk_C G p s m args meth c cX3_dipAt RX3 8 (some FieldType.long)) : ∀ (V : bk_Val) (a0 : Nat) (x1 : Int32) (H : Heap) (locs : List Loc) (ls : Array Slot) (out : Int64 × bk_Val), lv_has ls 8 [(0, .ref a0), (1, .int x1)] → bk_H G Y V s.heap H locs → q_X3_dipAt N Y V a0 x1 = some out → W p l e rm_X3_dipAt s m args below meth c H locs 0 0 (MQ below (bk_Q G (some (.long out.1)) Y out.2) args s 0 0 (bk_A G)) (F0 m 0 ls []) := by
  have hx := C.1
  have hb := C.2.1
  intro V a0 x1 H locs ls out hl hH hq
  unfold q_X3_dipAt at hq
  refine lv_lconst (v := 0) hx hb dX3_dipAt_0 (by decide) ?_
  refine lv_lstore_n (lv' := [(2, .long 0), (0, .ref a0), (1, .int x1)]) hx hb dX3_dipAt_1 rfl hl (by decide) rfl (fun ls hl => ?_)
  refine lv_iconst (v := 0) hx hb dX3_dipAt_2 (by decide) ?_
  refine lv_istore (lv' := [(4, .int 0), (2, .long 0), (0, .ref a0), (1, .int x1)]) hx hb dX3_dipAt_3 hl (by decide) rfl (fun ls hl => ?_)
  exact w_X3_dipAt_5 C _ _ _ _ _ _ _ _ _ _ (lv_sub hl [2, 3, 1, 0] rfl) hH hq
set_option maxRecDepth 100000 in
theorem c_X3_dipAt {l : Launch} {G : bk_G} {N : Nat} {Y : bk_Lay} {V : bk_Val} {a0 : Nat} {x1 : Int32} {out : Int64 × bk_Val} (hq : q_X3_dipAt N Y V a0 x1 = some out) : Met l yX3_dipAt (bk_ws yX3_dipAt cX3_dipAt 8 (some FieldType.long)) rm_X3_dipAt (bk_Pc G [.ref a0, .int x1] Y V) (bk_Q G (some (.long out.1)) Y out.2) 0 0 (bk_A G) :=
  bk_met (by decide) (Nat.le_of_ble_eq_true rfl) (fun p e s m args below meth c ls C hnm hH hl => w_X3_dipAt C _ _ _ _ _ _ _ hl hH hq)

def rm_X3_goOn : Room := bk_rm 3 0 0 70
set_option maxRecDepth 100000 in
set_option maxHeartbeats 4000000 in
theorem w_X3_goOn_13 (C : bk_C G p s m args meth c cX3_goOn RX3 3 (none : Option FieldType)) : ∀ (n : Nat), ∀ (V : bk_Val) (a0 : Nat) (x1 : Int32) (x2 : Int32) (H : Heap) (locs : List Loc) (ls : Array Slot) (out : bk_Val), lv_has ls 3 [(0, .ref a0), (1, .int x1), (2, .int x2)] → bk_H G Y V s.heap H locs → q_X3_goOn_13 N Y n V a0 x1 x2 = some out → W p l e rm_X3_goOn s m args below meth c H locs 0 0 (MQ below (bk_Q G none Y out) args s 0 0 (bk_A G)) (F0 m 13 ls []) := by
  have hx := C.1
  have hb := C.2.1
  intro n
  induction n with
  | zero =>
    intro V a0 x1 x2 H locs ls out hl hH hq
    exact nomatch (show (none : Option (bk_Val)) = some out from hq)
  | succ n ih =>
    intro V a0 x1 x2 H locs ls out hl hH hq
    unfold q_X3_goOn_13 at hq
    refine lv_iload_n hx hb dX3_goOn_13 rfl (lv_at hl 2 rfl) ?_
    refine lv_iload_n hx hb dX3_goOn_14 rfl (lv_at hl 1 rfl) ?_
    refine lv_icmp_ge (tgt := 73) hx hb dX3_goOn_15 (by decide) (fun hc_24 => ?_) (fun hc_24 => ?_)
    · rw [if_pos hc_24] at hq
      cases hq
      exact bk_vret C hH dX3_goOn_73
    · rw [if_neg hc_24] at hq
      refine lv_iload_n hx hb dX3_goOn_18 rfl (lv_at hl 2 rfl) ?_
      refine lv_sipush (v := 600) hx hb dX3_goOn_19 (by decide) ?_
      refine lv_icmp_ge (tgt := 73) hx hb dX3_goOn_22 (by decide) (fun hc_23 => ?_) (fun hc_23 => ?_)
      · rw [if_pos hc_23] at hq
        cases hq
        exact bk_vret C hH dX3_goOn_73
      · rw [if_neg hc_23] at hq
        refine lv_aload_n hx hb dX3_goOn_25 rfl (lv_at hl 0 rfl) ?_
        obtain ⟨hs_1, hq⟩ := bk_ck_some hq
        obtain ⟨b_2, hr_3, hq⟩ := bk_bd_some hq
        refine bk_getr C hH fl_RX3_18 hs_1 rfl hr_3 dX3_goOn_26 ?_
        refine lv_iload_n hx hb dX3_goOn_29 rfl (lv_at hl 2 rfl) ?_
        refine lv_aload_n hx hb dX3_goOn_30 rfl (lv_at hl 0 rfl) ?_
        obtain ⟨r_5, hr_4, hq⟩ := bk_bd_some hq
        refine bk_callV (rest := [.int x2, .ref b_2]) (As := []) (ro := (some (.int r_5))) (Y1 := Y) (V1 := V) C hH hl.1 (c_X3_bestInch hr_4) mc_X3_bestInch mv_X3_bestInch lk_RX3_76 hs_1 rfl rfl ⟨rfl, rfl⟩ ⟨by decide, by decide⟩ rfl (Nat.le_of_ble_eq_true rfl) dX3_goOn_31 ⟨by decide, by decide⟩ (fun H locs hH => ?_)
        obtain ⟨ha_6, hq⟩ := bk_ck_some hq
        obtain ⟨hi_7, hq⟩ := bk_ck_some hq
        refine bk_iast C hH (bk_arr ha_6) (bk_in_vp hi_7) dX3_goOn_34 (fun V_8 H locs e_9 hH => ?_)
        have hq := bk_let_eq e_9 hq
        refine lv_aload_n hx hb dX3_goOn_35 rfl (lv_at hl 0 rfl) ?_
        obtain ⟨b_10, hr_11, hq⟩ := bk_bd_some hq
        refine bk_getr C hH fl_RX3_22 hs_1 rfl hr_11 dX3_goOn_36 ?_
        refine lv_iload_n hx hb dX3_goOn_39 rfl (lv_at hl 2 rfl) ?_
        refine lv_iconst (v := 1) hx hb dX3_goOn_40 (by decide) ?_
        refine lv_iadd hx hb dX3_goOn_41 ?_
        refine lv_aload_n hx hb dX3_goOn_42 rfl (lv_at hl 0 rfl) ?_
        refine bk_getr C hH fl_RX3_22 hs_1 rfl hr_11 dX3_goOn_43 ?_
        refine lv_iload_n hx hb dX3_goOn_46 rfl (lv_at hl 2 rfl) ?_
        obtain ⟨ha_12, hq⟩ := bk_ck_some hq
        obtain ⟨hi_13, hq⟩ := bk_ck_some hq
        refine bk_lald C hH (bk_arr ha_12) (bk_in_vp hi_13) dX3_goOn_47 ?_
        refine lv_aload_n hx hb dX3_goOn_48 rfl (lv_at hl 0 rfl) ?_
        refine lv_aload_n hx hb dX3_goOn_49 rfl (lv_at hl 0 rfl) ?_
        refine bk_getr C hH fl_RX3_18 hs_1 rfl hr_3 dX3_goOn_50 ?_
        refine lv_iload_n hx hb dX3_goOn_53 rfl (lv_at hl 2 rfl) ?_
        obtain ⟨hi_14, hq⟩ := bk_ck_some hq
        refine bk_iald C hH (bk_arr ha_6) (bk_in_vp hi_14) dX3_goOn_54 ?_
        obtain ⟨r_16, V_17, hr_15, hq⟩ := bk_bd2_some hq
        refine bk_callV (rest := [.long (bk_rL V_8 b_10 x2.toNatClampNeg), .int (x2 + 1), .ref b_10]) (As := [.int (bk_rI V_8 b_2 x2.toNatClampNeg)]) (ro := (some (.long r_16))) (Y1 := Y) (V1 := V_17) C hH hl.1 (c_X3_dipAt hr_15) mc_X3_dipAt mv_X3_dipAt lk_RX3_79 hs_1 rfl rfl ⟨rfl, rfl⟩ ⟨by decide, by decide⟩ rfl (Nat.le_of_ble_eq_true rfl) dX3_goOn_55 ⟨by decide, by decide⟩ (fun H locs hH => ?_)
        refine lv_lsub hx hb dX3_goOn_58 ?_
        obtain ⟨hi_18, hq⟩ := bk_ck_some hq
        refine bk_last C hH (bk_arr ha_12) (bk_in_vp hi_18) dX3_goOn_59 (fun V_19 H locs e_20 hH => ?_)
        have hq := bk_let_eq e_20 hq
        refine lv_aload_n hx hb dX3_goOn_60 rfl (lv_at hl 0 rfl) ?_
        refine lv_iload_n hx hb dX3_goOn_61 rfl (lv_at hl 2 rfl) ?_
        refine lv_iconst (v := 1) hx hb dX3_goOn_62 (by decide) ?_
        refine lv_iadd hx hb dX3_goOn_63 ?_
        refine bk_puti C hH fp_RX3_60 (fun h => by cases h) hs_1 rfl dX3_goOn_64 (fun V_21 H locs e_22 hH => ?_)
        have hq := bk_let_eq e_22 hq
        refine lv_iinc (v := (x2 + 1)) (lv' := [(2, .int (x2 + 1)), (0, .ref a0), (1, .int x1)]) hx hb dX3_goOn_67 hl (k := 2) rfl rfl (by decide) rfl (fun ls hl => ?_)
        refine lv_goto (tgt := 13) hx hb dX3_goOn_70 (by decide) ?_
        exact ih _ _ _ _ _ _ _ _ (lv_sub hl [1, 2, 0] rfl) hH hq

set_option maxRecDepth 100000 in
set_option maxHeartbeats 4000000 in
theorem w_X3_goOn (C : bk_C G p s m args meth c cX3_goOn RX3 3 (none : Option FieldType)) : ∀ (V : bk_Val) (a0 : Nat) (x1 : Int32) (H : Heap) (locs : List Loc) (ls : Array Slot) (out : bk_Val), lv_has ls 3 [(0, .ref a0), (1, .int x1)] → bk_H G Y V s.heap H locs → q_X3_goOn N Y V a0 x1 = some out → W p l e rm_X3_goOn s m args below meth c H locs 0 0 (MQ below (bk_Q G none Y out) args s 0 0 (bk_A G)) (F0 m 0 ls []) := by
  have hx := C.1
  have hb := C.2.1
  intro V a0 x1 H locs ls out hl hH hq
  unfold q_X3_goOn at hq
  refine lv_aload_n hx hb dX3_goOn_0 rfl (lv_at hl 0 rfl) ?_
  obtain ⟨hs_25, hq⟩ := bk_ck_some hq
  rcases bk_nl_cases hq with ⟨hr_27, hq⟩ | ⟨b_26, hr_27, hq⟩
  · refine bk_getn C hH fl_RX3_29 hs_25 rfl hr_27 dX3_goOn_1 ?_
    refine lv_ifnonnullN hx hb dX3_goOn_4 ?_
    cases hq
    exact bk_vret C hH dX3_goOn_7
  · refine bk_getr C hH fl_RX3_29 hs_25 rfl hr_27 dX3_goOn_1 ?_
    refine lv_ifnonnull (tgt := 8) hx hb dX3_goOn_4 (by decide) ?_
    refine lv_aload_n hx hb dX3_goOn_8 rfl (lv_at hl 0 rfl) ?_
    refine bk_geti C hH fl_RX3_60 hs_25 rfl dX3_goOn_9 ?_
    refine lv_istore_n (lv' := [(2, .int (bk_rI V a0 5)), (0, .ref a0), (1, .int x1)]) hx hb dX3_goOn_12 rfl hl (by decide) rfl (fun ls hl => ?_)
    exact w_X3_goOn_13 C _ _ _ _ _ _ _ _ _ (lv_sub hl [1, 2, 0] rfl) hH hq
set_option maxRecDepth 100000 in
theorem c_X3_goOn {l : Launch} {G : bk_G} {N : Nat} {Y : bk_Lay} {V : bk_Val} {a0 : Nat} {x1 : Int32} {out : bk_Val} (hq : q_X3_goOn N Y V a0 x1 = some out) : Met l yX3_goOn (bk_ws yX3_goOn cX3_goOn 3 (none : Option FieldType)) rm_X3_goOn (bk_Pc G [.ref a0, .int x1] Y V) (bk_Q G none Y out) 0 0 (bk_A G) :=
  bk_met (by decide) (Nat.le_of_ble_eq_true rfl) (fun p e s m args below meth c ls C hnm hH hl => w_X3_goOn C _ _ _ _ _ _ _ hl hH hq)

def rm_X3_inchIn : Room := bk_rm 4 0 0 92
set_option maxRecDepth 100000 in
set_option maxHeartbeats 4000000 in
theorem w_X3_inchIn (C : bk_C G p s m args meth c cX3_inchIn RX3 2 (some FieldType.int)) : ∀ (V : bk_Val) (a0 : Nat) (x1 : Int32) (H : Heap) (locs : List Loc) (ls : Array Slot) (out : Int32 × bk_Val), lv_has ls 2 [(0, .ref a0), (1, .int x1)] → bk_H G Y V s.heap H locs → q_X3_inchIn N Y V a0 x1 = some out → W p l e rm_X3_inchIn s m args below meth c H locs 0 0 (MQ below (bk_Q G (some (.int out.1)) Y out.2) args s 0 0 (bk_A G)) (F0 m 0 ls []) := by
  have hx := C.1
  have hb := C.2.1
  intro V a0 x1 H locs ls out hl hH hq
  unfold q_X3_inchIn at hq
  refine lv_iload_n hx hb dX3_inchIn_0 rfl (lv_at hl 1 rfl) ?_
  refine lv_iconst (v := 0) hx hb dX3_inchIn_1 (by decide) ?_
  refine lv_sipush (v := 599) hx hb dX3_inchIn_2 (by decide) ?_
  obtain ⟨r_2, hr_1, hq⟩ := bk_bd_some hq
  refine bk_callS (rest := []) (As := [.int x1, .int 0, .int 599]) (ro := (some (.int r_2))) (Y1 := Y) (V1 := V) C hH hl.1 (c_X11_isWithin hr_1) mc_X11_isWithin st_X11_isWithin lk_RX3_64 rfl ⟨rfl, rfl⟩ ⟨by decide, by decide⟩ rfl (Nat.le_of_ble_eq_true rfl) dX3_inchIn_5 ⟨by decide, by decide⟩ (fun H locs hH => ?_)
  refine lv_if_ne (tgt := 13) hx hb dX3_inchIn_8 (by decide) (fun hc_10 => ?_) (fun hc_10 => ?_)
  · rw [if_neg hc_10] at hq
    refine lv_aload_n hx hb dX3_inchIn_13 rfl (lv_at hl 0 rfl) ?_
    refine lv_iload_n hx hb dX3_inchIn_14 rfl (lv_at hl 1 rfl) ?_
    refine lv_iconst (v := 1) hx hb dX3_inchIn_15 (by decide) ?_
    refine lv_iadd hx hb dX3_inchIn_16 ?_
    obtain ⟨hs_5, hq⟩ := bk_ck_some hq
    obtain ⟨V_4, hr_3, hq⟩ := bk_bd_some hq
    refine bk_callV (rest := []) (As := [.int (x1 + 1)]) (ro := none) (Y1 := Y) (V1 := V_4) C hH hl.1 (c_X3_goOn hr_3) mc_X3_goOn mv_X3_goOn lk_RX3_68 hs_5 rfl rfl ⟨rfl, rfl⟩ ⟨by decide, by decide⟩ rfl (Nat.le_of_ble_eq_true rfl) dX3_inchIn_17 ⟨by decide, by decide⟩ (fun H locs hH => ?_)
    refine lv_aload_n hx hb dX3_inchIn_20 rfl (lv_at hl 0 rfl) ?_
    obtain ⟨b_6, hr_7, hq⟩ := bk_bd_some hq
    refine bk_getr C hH fl_RX3_18 hs_5 rfl hr_7 dX3_inchIn_21 ?_
    refine lv_iload_n hx hb dX3_inchIn_24 rfl (lv_at hl 1 rfl) ?_
    obtain ⟨ha_8, hq⟩ := bk_ck_some hq
    obtain ⟨hi_9, hq⟩ := bk_ck_some hq
    refine bk_iald C hH (bk_arr ha_8) (bk_in_vp hi_9) dX3_inchIn_25 ?_
    cases hq
    exact bk_iret C hH dX3_inchIn_26
  · rw [if_pos hc_10] at hq
    refine lv_iconst (v := 0) hx hb dX3_inchIn_11 (by decide) ?_
    cases hq
    exact bk_iret C hH dX3_inchIn_12
set_option maxRecDepth 100000 in
theorem c_X3_inchIn {l : Launch} {G : bk_G} {N : Nat} {Y : bk_Lay} {V : bk_Val} {a0 : Nat} {x1 : Int32} {out : Int32 × bk_Val} (hq : q_X3_inchIn N Y V a0 x1 = some out) : Met l yX3_inchIn (bk_ws yX3_inchIn cX3_inchIn 2 (some FieldType.int)) rm_X3_inchIn (bk_Pc G [.ref a0, .int x1] Y V) (bk_Q G (some (.int out.1)) Y out.2) 0 0 (bk_A G) :=
  bk_met (by decide) (Nat.le_of_ble_eq_true rfl) (fun p e s m args below meth c ls C hnm hH hl => w_X3_inchIn C _ _ _ _ _ _ _ hl hH hq)

def rm_X5_sweptInch : Room := bk_rm 1 0 0 21
set_option maxRecDepth 100000 in
set_option maxHeartbeats 4000000 in
theorem w_X5_sweptInch (C : bk_C G p s m args meth c cX5_sweptInch RX5 6 (some FieldType.int)) : ∀ (V : bk_Val) (a0 : Nat) (x1 : Int32) (x2 : Int32) (H : Heap) (locs : List Loc) (ls : Array Slot) (out : Int32), lv_has ls 6 [(0, .ref a0), (1, .int x1), (2, .int x2)] → bk_H G Y V s.heap H locs → q_X5_sweptInch N Y V a0 x1 x2 = some out → W p l e rm_X5_sweptInch s m args below meth c H locs 0 0 (MQ below (bk_Q G (some (.int out)) Y V) args s 0 0 (bk_A G)) (F0 m 0 ls []) := by
  have hx := C.1
  have hb := C.2.1
  intro V a0 x1 x2 H locs ls out hl hH hq
  unfold q_X5_sweptInch at hq
  refine lv_aload_n hx hb dX5_sweptInch_0 rfl (lv_at hl 0 rfl) ?_
  obtain ⟨hs_3, hq⟩ := bk_ck_some hq
  obtain ⟨r_2, hr_1, hq⟩ := bk_bd_some hq
  refine bk_callV (rest := []) (As := []) (ro := (some (.int r_2))) (Y1 := Y) (V1 := V) C hH hl.1 (c_X5_hand hr_1) mc_X5_hand mv_X5_hand lk_RX5_79 hs_3 rfl rfl ⟨rfl, rfl⟩ ⟨by decide, by decide⟩ rfl (Nat.le_of_ble_eq_true rfl) dX5_sweptInch_1 ⟨by decide, by decide⟩ (fun H locs hH => ?_)
  refine lv_iconst (v := 1) hx hb dX5_sweptInch_4 (by decide) ?_
  obtain ⟨r_5, hr_4, hq⟩ := bk_bd_some hq
  refine bk_callS (rest := []) (As := [.int r_2, .int 1]) (ro := (some (.int r_5))) (Y1 := Y) (V1 := V) C hH hl.1 (c_J9_max_7cf53 hr_4) mc_J9_max_7cf53 st_J9_max_7cf53 lk_RX5_62 rfl ⟨rfl, rfl⟩ ⟨by decide, by decide⟩ rfl (Nat.le_of_ble_eq_true rfl) dX5_sweptInch_5 ⟨by decide, by decide⟩ (fun H locs hH => ?_)
  refine lv_istore_n (lv' := [(3, .int r_5), (0, .ref a0), (1, .int x1), (2, .int x2)]) hx hb dX5_sweptInch_8 rfl hl (by decide) rfl (fun ls hl => ?_)
  refine lv_aload_n hx hb dX5_sweptInch_9 rfl (lv_at hl 1 rfl) ?_
  obtain ⟨r_7, hr_6, hq⟩ := bk_bd_some hq
  refine bk_callV (rest := []) (As := []) (ro := (some (.int r_7))) (Y1 := Y) (V1 := V) C hH hl.1 (c_X5_inches hr_6) mc_X5_inches mv_X5_inches lk_RX5_71 hs_3 rfl rfl ⟨rfl, rfl⟩ ⟨by decide, by decide⟩ rfl (Nat.le_of_ble_eq_true rfl) dX5_sweptInch_10 ⟨by decide, by decide⟩ (fun H locs hH => ?_)
  refine lv_iload_n hx hb dX5_sweptInch_13 rfl (lv_at hl 0 rfl) ?_
  refine lv_iadd hx hb dX5_sweptInch_14 ?_
  refine lv_iconst (v := 1) hx hb dX5_sweptInch_15 (by decide) ?_
  refine lv_isub hx hb dX5_sweptInch_16 ?_
  refine lv_iload_n hx hb dX5_sweptInch_17 rfl (lv_at hl 0 rfl) ?_
  obtain ⟨hd_8, hq⟩ := bk_ck_some hq
  refine lv_idiv hx hb dX5_sweptInch_18 hd_8 ?_
  refine lv_topi (fun x4_9 e_10 => ?_)
  have hq := bk_let_eq e_10 hq
  refine lv_istore (lv' := [(4, .int x4_9), (3, .int r_5), (0, .ref a0), (1, .int x1), (2, .int x2)]) hx hb dX5_sweptInch_19 hl (by decide) rfl (fun ls hl => ?_)
  refine lv_iload_n hx hb dX5_sweptInch_21 rfl (lv_at hl 3 rfl) ?_
  refine lv_iload_n hx hb dX5_sweptInch_22 rfl (lv_at hl 4 rfl) ?_
  refine lv_iconst (v := 1) hx hb dX5_sweptInch_23 (by decide) ?_
  obtain ⟨r_12, hr_11, hq⟩ := bk_bd_some hq
  refine bk_callS (rest := [.int x1]) (As := [.int x2, .int 1]) (ro := (some (.int r_12))) (Y1 := Y) (V1 := V) C hH hl.1 (c_J9_max_7cf53 hr_11) mc_J9_max_7cf53 st_J9_max_7cf53 lk_RX5_62 rfl ⟨rfl, rfl⟩ ⟨by decide, by decide⟩ rfl (Nat.le_of_ble_eq_true rfl) dX5_sweptInch_24 ⟨by decide, by decide⟩ (fun H locs hH => ?_)
  obtain ⟨hd_13, hq⟩ := bk_ck_some hq
  refine lv_idiv hx hb dX5_sweptInch_27 hd_13 ?_
  refine lv_istore (lv' := [(5, .int (x1 / r_12)), (4, .int x4_9), (3, .int r_5), (0, .ref a0), (1, .int x1), (2, .int x2)]) hx hb dX5_sweptInch_28 hl (by decide) rfl (fun ls hl => ?_)
  refine lv_iload hx hb dX5_sweptInch_30 (lv_at hl 0 rfl) ?_
  refine lv_iload hx hb dX5_sweptInch_32 (lv_at hl 1 rfl) ?_
  refine lv_iconst (v := 1) hx hb dX5_sweptInch_34 (by decide) ?_
  obtain ⟨r_15, hr_14, hq⟩ := bk_bd_some hq
  refine bk_callS (rest := [.int (x1 / r_12)]) (As := [.int x4_9, .int 1]) (ro := (some (.int r_15))) (Y1 := Y) (V1 := V) C hH hl.1 (c_J9_max_7cf53 hr_14) mc_J9_max_7cf53 st_J9_max_7cf53 lk_RX5_62 rfl ⟨rfl, rfl⟩ ⟨by decide, by decide⟩ rfl (Nat.le_of_ble_eq_true rfl) dX5_sweptInch_35 ⟨by decide, by decide⟩ (fun H locs hH => ?_)
  obtain ⟨hd_16, hq⟩ := bk_ck_some hq
  refine bk_irem hx hb dX5_sweptInch_38 hd_16 ?_
  refine lv_iload_n hx hb dX5_sweptInch_39 rfl (lv_at hl 2 rfl) ?_
  refine lv_imul hx hb dX5_sweptInch_40 ?_
  cases hq
  exact bk_iret C hH dX5_sweptInch_41
set_option maxRecDepth 100000 in
theorem c_X5_sweptInch {l : Launch} {G : bk_G} {N : Nat} {Y : bk_Lay} {V : bk_Val} {a0 : Nat} {x1 : Int32} {x2 : Int32} {out : Int32} (hq : q_X5_sweptInch N Y V a0 x1 x2 = some out) : Met l yX5_sweptInch (bk_ws yX5_sweptInch cX5_sweptInch 6 (some FieldType.int)) rm_X5_sweptInch (bk_Pc G [.ref a0, .int x1, .int x2] Y V) (bk_Q G (some (.int out)) Y V) 0 0 (bk_A G) :=
  bk_met (by decide) (Nat.le_of_ble_eq_true rfl) (fun p e s m args below meth c ls C hnm hH hl => w_X5_sweptInch C _ _ _ _ _ _ _ _ hl hH hq)

def rm_X5_looksAt : Room := bk_rm 2 0 0 43
set_option maxRecDepth 100000 in
set_option maxHeartbeats 4000000 in
theorem w_X5_looksAt (C : bk_C G p s m args meth c cX5_looksAt RX5 3 (some FieldType.boolean)) : ∀ (V : bk_Val) (a0 : Nat) (x1 : Int32) (x2 : Int32) (H : Heap) (locs : List Loc) (ls : Array Slot) (out : Int32), lv_has ls 3 [(0, .ref a0), (1, .int x1), (2, .int x2)] → bk_H G Y V s.heap H locs → q_X5_looksAt N Y V a0 x1 x2 = some out → W p l e rm_X5_looksAt s m args below meth c H locs 0 0 (MQ below (bk_Q G (some (.int out)) Y V) args s 0 0 (bk_A G)) (F0 m 0 ls []) := by
  have hx := C.1
  have hb := C.2.1
  intro V a0 x1 x2 H locs ls out hl hH hq
  unfold q_X5_looksAt at hq
  refine lv_aload_n hx hb dX5_looksAt_0 rfl (lv_at hl 0 rfl) ?_
  refine lv_iload_n hx hb dX5_looksAt_1 rfl (lv_at hl 2 rfl) ?_
  refine lv_iload_n hx hb dX5_looksAt_2 rfl (lv_at hl 1 rfl) ?_
  refine lv_isub hx hb dX5_looksAt_3 ?_
  obtain ⟨hs_3, hq⟩ := bk_ck_some hq
  obtain ⟨r_2, hr_1, hq⟩ := bk_bd_some hq
  refine bk_callV (rest := []) (As := [.int (x2 - x1)]) (ro := (some (.int r_2))) (Y1 := Y) (V1 := V) C hH hl.1 (c_X5_round hr_1) mc_X5_round mv_X5_round lk_RX5_75 hs_3 rfl rfl ⟨rfl, rfl⟩ ⟨by decide, by decide⟩ rfl (Nat.le_of_ble_eq_true rfl) dX5_looksAt_4 ⟨by decide, by decide⟩ (fun H locs hH => ?_)
  refine lv_aload_n hx hb dX5_looksAt_7 rfl (lv_at hl 0 rfl) ?_
  obtain ⟨r_5, hr_4, hq⟩ := bk_bd_some hq
  refine bk_callV (rest := [.int r_2]) (As := []) (ro := (some (.int r_5))) (Y1 := Y) (V1 := V) C hH hl.1 (c_X5_hand hr_4) mc_X5_hand mv_X5_hand lk_RX5_79 hs_3 rfl rfl ⟨rfl, rfl⟩ ⟨by decide, by decide⟩ rfl (Nat.le_of_ble_eq_true rfl) dX5_looksAt_8 ⟨by decide, by decide⟩ (fun H locs hH => ?_)
  refine lv_icmp_ge (tgt := 18) hx hb dX5_looksAt_11 (by decide) (fun hc_6 => ?_) (fun hc_6 => ?_)
  · rw [if_pos hc_6] at hq
    refine lv_iconst (v := 0) hx hb dX5_looksAt_18 (by decide) ?_
    cases hq
    exact bk_zret C hH (Or.inl rfl) dX5_looksAt_19
  · rw [if_neg hc_6] at hq
    refine lv_iconst (v := 1) hx hb dX5_looksAt_14 (by decide) ?_
    refine lv_goto (tgt := 19) hx hb dX5_looksAt_15 (by decide) ?_
    cases hq
    exact bk_zret C hH (Or.inr rfl) dX5_looksAt_19
set_option maxRecDepth 100000 in
theorem c_X5_looksAt {l : Launch} {G : bk_G} {N : Nat} {Y : bk_Lay} {V : bk_Val} {a0 : Nat} {x1 : Int32} {x2 : Int32} {out : Int32} (hq : q_X5_looksAt N Y V a0 x1 x2 = some out) : Met l yX5_looksAt (bk_ws yX5_looksAt cX5_looksAt 3 (some FieldType.boolean)) rm_X5_looksAt (bk_Pc G [.ref a0, .int x1, .int x2] Y V) (bk_Q G (some (.int out)) Y V) 0 0 (bk_A G) :=
  bk_met (by decide) (Nat.le_of_ble_eq_true rfl) (fun p e s m args below meth c ls C hnm hH hl => w_X5_looksAt C _ _ _ _ _ _ _ _ hl hH hq)

def rm_X5_mark : Room := bk_rm 0 0 0 0
set_option maxRecDepth 100000 in
set_option maxHeartbeats 4000000 in
theorem w_X5_mark (C : bk_C G p s m args meth c cX5_mark RX5 1 (some FieldType.int)) : ∀ (V : bk_Val) (a0 : Nat) (H : Heap) (locs : List Loc) (ls : Array Slot) (out : Int32), lv_has ls 1 [(0, .ref a0)] → bk_H G Y V s.heap H locs → q_X5_mark N Y V a0 = some out → W p l e rm_X5_mark s m args below meth c H locs 0 0 (MQ below (bk_Q G (some (.int out)) Y V) args s 0 0 (bk_A G)) (F0 m 0 ls []) := by
  have hx := C.1
  have hb := C.2.1
  intro V a0 H locs ls out hl hH hq
  unfold q_X5_mark at hq
  refine lv_aload_n hx hb dX5_mark_0 rfl (lv_at hl 0 rfl) ?_
  obtain ⟨hs_1, hq⟩ := bk_ck_some hq
  obtain ⟨b_2, hr_3, hq⟩ := bk_bd_some hq
  refine bk_getr C hH fl_RX5_9 hs_1 rfl hr_3 dX5_mark_1 ?_
  refine lv_iconst (v := 5) hx hb dX5_mark_4 (by decide) ?_
  obtain ⟨ha_4, hq⟩ := bk_ck_some hq
  obtain ⟨hi_5, hq⟩ := bk_ck_some hq
  refine bk_iald C hH (bk_arr ha_4) (bk_in_vp hi_5) dX5_mark_5 ?_
  cases hq
  exact bk_iret C hH dX5_mark_6
set_option maxRecDepth 100000 in
theorem c_X5_mark {l : Launch} {G : bk_G} {N : Nat} {Y : bk_Lay} {V : bk_Val} {a0 : Nat} {out : Int32} (hq : q_X5_mark N Y V a0 = some out) : Met l yX5_mark (bk_ws yX5_mark cX5_mark 1 (some FieldType.int)) rm_X5_mark (bk_Pc G [.ref a0] Y V) (bk_Q G (some (.int out)) Y V) 0 0 (bk_A G) :=
  bk_met (by decide) (Nat.le_of_ble_eq_true rfl) (fun p e s m args below meth c ls C hnm hH hl => w_X5_mark C _ _ _ _ _ _ hl hH hq)

def rm_X9_isSign : Room := bk_rm 0 0 0 0
set_option maxRecDepth 100000 in
set_option maxHeartbeats 4000000 in
theorem w_X9_isSign (C : bk_C G p s m args meth c cX9_isSign RX9 2 (some FieldType.boolean)) : ∀ (V : bk_Val) (a0 : Nat) (x1 : Int32) (H : Heap) (locs : List Loc) (ls : Array Slot) (out : Int32), lv_has ls 2 [(0, .ref a0), (1, .int x1)] → bk_H G Y V s.heap H locs → q_X9_isSign N Y V a0 x1 = some out → W p l e rm_X9_isSign s m args below meth c H locs 0 0 (MQ below (bk_Q G (some (.int out)) Y V) args s 0 0 (bk_A G)) (F0 m 0 ls []) := by
  have hx := C.1
  have hb := C.2.1
  intro V a0 x1 H locs ls out hl hH hq
  unfold q_X9_isSign at hq
  refine lv_aload_n hx hb dX9_isSign_0 rfl (lv_at hl 0 rfl) ?_
  obtain ⟨hs_1, hq⟩ := bk_ck_some hq
  refine bk_geti C hH fl_RX9_35 hs_1 rfl dX9_isSign_1 ?_
  refine lv_iconst (v := 3) hx hb dX9_isSign_4 (by decide) ?_
  refine lv_icmp_ne (tgt := 36) hx hb dX9_isSign_5 (by decide) (fun hc_8 => ?_) (fun hc_8 => ?_)
  · rw [if_neg hc_8] at hq
    refine lv_iconst (v := 0) hx hb dX9_isSign_36 (by decide) ?_
    cases hq
    exact bk_zret C hH (Or.inl rfl) dX9_isSign_37
  · rw [if_pos hc_8] at hq
    refine lv_aload_n hx hb dX9_isSign_8 rfl (lv_at hl 0 rfl) ?_
    refine bk_geti C hH fl_RX9_32 hs_1 rfl dX9_isSign_9 ?_
    refine lv_aload_n hx hb dX9_isSign_12 rfl (lv_at hl 0 rfl) ?_
    refine bk_geti C hH fl_RX9_22 hs_1 rfl dX9_isSign_13 ?_
    refine lv_icmp_ge (tgt := 36) hx hb dX9_isSign_16 (by decide) (fun hc_7 => ?_) (fun hc_7 => ?_)
    · rw [if_pos hc_7] at hq
      refine lv_iconst (v := 0) hx hb dX9_isSign_36 (by decide) ?_
      cases hq
      exact bk_zret C hH (Or.inl rfl) dX9_isSign_37
    · rw [if_neg hc_7] at hq
      refine lv_aload_n hx hb dX9_isSign_19 rfl (lv_at hl 0 rfl) ?_
      obtain ⟨b_2, hr_3, hq⟩ := bk_bd_some hq
      refine bk_getr C hH fl_RX9_7 hs_1 rfl hr_3 dX9_isSign_20 ?_
      refine lv_aload_n hx hb dX9_isSign_23 rfl (lv_at hl 0 rfl) ?_
      refine bk_geti C hH fl_RX9_32 hs_1 rfl dX9_isSign_24 ?_
      obtain ⟨ha_4, hq⟩ := bk_ck_some hq
      obtain ⟨hi_5, hq⟩ := bk_ck_some hq
      refine bk_bald C hH (bk_arr ha_4) (bk_in_vp hi_5) dX9_isSign_27 ?_
      refine lv_iload_n hx hb dX9_isSign_28 rfl (lv_at hl 1 rfl) ?_
      refine lv_icmp_ne (tgt := 36) hx hb dX9_isSign_29 (by decide) (fun hc_6 => ?_) (fun hc_6 => ?_)
      · rw [if_neg hc_6] at hq
        refine lv_iconst (v := 0) hx hb dX9_isSign_36 (by decide) ?_
        cases hq
        exact bk_zret C hH (Or.inl rfl) dX9_isSign_37
      · rw [if_pos hc_6] at hq
        refine lv_iconst (v := 1) hx hb dX9_isSign_32 (by decide) ?_
        refine lv_goto (tgt := 37) hx hb dX9_isSign_33 (by decide) ?_
        cases hq
        exact bk_zret C hH (Or.inr rfl) dX9_isSign_37
set_option maxRecDepth 100000 in
theorem c_X9_isSign {l : Launch} {G : bk_G} {N : Nat} {Y : bk_Lay} {V : bk_Val} {a0 : Nat} {x1 : Int32} {out : Int32} (hq : q_X9_isSign N Y V a0 x1 = some out) : Met l yX9_isSign (bk_ws yX9_isSign cX9_isSign 2 (some FieldType.boolean)) rm_X9_isSign (bk_Pc G [.ref a0, .int x1] Y V) (bk_Q G (some (.int out)) Y V) 0 0 (bk_A G) :=
  bk_met (by decide) (Nat.le_of_ble_eq_true rfl) (fun p e s m args below meth c ls C hnm hH hl => w_X9_isSign C _ _ _ _ _ _ _ hl hH hq)

def rm_X8_readSign : Room := bk_rm 2 0 0 40
set_option maxRecDepth 100000 in
set_option maxHeartbeats 4000000 in
theorem w_X8_readSign (C : bk_C G p s m args meth c cX8_readSign RX8 2 (some FieldType.boolean)) : ∀ (V : bk_Val) (a0 : Nat) (x1 : Int32) (H : Heap) (locs : List Loc) (ls : Array Slot) (out : Int32 × bk_Val), lv_has ls 2 [(0, .ref a0), (1, .int x1)] → bk_H G Y V s.heap H locs → q_X8_readSign N Y V a0 x1 = some out → W p l e rm_X8_readSign s m args below meth c H locs 0 0 (MQ below (bk_Q G (some (.int out.1)) Y out.2) args s 0 0 (bk_A G)) (F0 m 0 ls []) := by
  have hx := C.1
  have hb := C.2.1
  intro V a0 x1 H locs ls out hl hH hq
  unfold q_X8_readSign at hq
  refine lv_aload_n hx hb dX8_readSign_0 rfl (lv_at hl 0 rfl) ?_
  obtain ⟨hs_1, hq⟩ := bk_ck_some hq
  obtain ⟨b_2, hr_3, hq⟩ := bk_bd_some hq
  refine bk_getr C hH fl_RX8_14 hs_1 rfl hr_3 dX8_readSign_1 ?_
  refine lv_iload_n hx hb dX8_readSign_4 rfl (lv_at hl 1 rfl) ?_
  obtain ⟨hs_6, hq⟩ := bk_ck_some hq
  obtain ⟨r_5, hr_4, hq⟩ := bk_bd_some hq
  refine bk_callV (rest := []) (As := [.int x1]) (ro := (some (.int r_5))) (Y1 := Y) (V1 := V) C hH hl.1 (c_X9_isSign hr_4) mc_X9_isSign mv_X9_isSign lk_RX8_222 hs_6 rfl rfl ⟨rfl, rfl⟩ ⟨by decide, by decide⟩ rfl (Nat.le_of_ble_eq_true rfl) dX8_readSign_5 ⟨by decide, by decide⟩ (fun H locs hH => ?_)
  refine lv_if_ne (tgt := 17) hx hb dX8_readSign_8 (by decide) (fun hc_12 => ?_) (fun hc_12 => ?_)
  · rw [if_neg hc_12] at hq
    refine lv_aload_n hx hb dX8_readSign_17 rfl (lv_at hl 0 rfl) ?_
    refine bk_getr C hH fl_RX8_14 hs_1 rfl hr_3 dX8_readSign_18 ?_
    obtain ⟨V_8, hr_7, hq⟩ := bk_bd_some hq
    refine bk_callV (rest := []) (As := []) (ro := none) (Y1 := Y) (V1 := V_8) C hH hl.1 (c_X9_step hr_7) mc_X9_step mv_X9_step lk_RX8_49 hs_6 rfl rfl ⟨rfl, rfl⟩ ⟨by decide, by decide⟩ rfl (Nat.le_of_ble_eq_true rfl) dX8_readSign_21 ⟨by decide, by decide⟩ (fun H locs hH => ?_)
    refine lv_iconst (v := 1) hx hb dX8_readSign_24 (by decide) ?_
    cases hq
    exact bk_zret C hH (Or.inr rfl) dX8_readSign_25
  · rw [if_pos hc_12] at hq
    refine lv_aload_n hx hb dX8_readSign_11 rfl (lv_at hl 0 rfl) ?_
    refine lv_iconst (v := 1) hx hb dX8_readSign_12 (by decide) ?_
    obtain ⟨r_10, V_11, hr_9, hq⟩ := bk_bd2_some hq
    refine bk_callV (rest := []) (As := [.int 1]) (ro := (some (.int r_10))) (Y1 := Y) (V1 := V_11) C hH hl.1 (c_X8_refuse hr_9) mc_X8_refuse mv_X8_refuse lk_RX8_71 hs_1 rfl rfl ⟨rfl, rfl⟩ ⟨by decide, by decide⟩ rfl (Nat.le_of_ble_eq_true rfl) dX8_readSign_13 ⟨by decide, by decide⟩ (fun H locs hH => ?_)
    obtain ⟨hz9, hq⟩ := bk_ck_some hq
    cases hq
    exact bk_zret C hH hz9 dX8_readSign_16
set_option maxRecDepth 100000 in
theorem c_X8_readSign {l : Launch} {G : bk_G} {N : Nat} {Y : bk_Lay} {V : bk_Val} {a0 : Nat} {x1 : Int32} {out : Int32 × bk_Val} (hq : q_X8_readSign N Y V a0 x1 = some out) : Met l yX8_readSign (bk_ws yX8_readSign cX8_readSign 2 (some FieldType.boolean)) rm_X8_readSign (bk_Pc G [.ref a0, .int x1] Y V) (bk_Q G (some (.int out.1)) Y out.2) 0 0 (bk_A G) :=
  bk_met (by decide) (Nat.le_of_ble_eq_true rfl) (fun p e s m args below meth c ls C hnm hH hl => w_X8_readSign C _ _ _ _ _ _ _ hl hH hq)

def rm_X8_leakValueNamed : Room := bk_rm 6 0 0 172
set_option maxRecDepth 100000 in
set_option maxHeartbeats 4000000 in
theorem w_X8_leakValueNamed (C : bk_C G p s m args meth c cX8_leakValueNamed RX8 1 (some FieldType.int)) : ∀ (V : bk_Val) (a0 : Nat) (H : Heap) (locs : List Loc) (ls : Array Slot) (out : Int32), lv_has ls 1 [(0, .ref a0)] → bk_H G Y V s.heap H locs → q_X8_leakValueNamed N Y V a0 = some out → W p l e rm_X8_leakValueNamed s m args below meth c H locs 0 0 (MQ below (bk_Q G (some (.int out)) Y V) args s 0 0 (bk_A G)) (F0 m 0 ls []) := by
  have hx := C.1
  have hb := C.2.1
  intro V a0 H locs ls out hl hH hq
  unfold q_X8_leakValueNamed at hq
  refine lv_aload_n hx hb dX8_leakValueNamed_0 rfl (lv_at hl 0 rfl) ?_
  obtain ⟨hs_1, hq⟩ := bk_ck_some hq
  obtain ⟨b_2, hr_3, hq⟩ := bk_bd_some hq
  refine bk_getr C hH fl_RX8_14 hs_1 rfl hr_3 dX8_leakValueNamed_1 ?_
  refine bk_ldcSW C (i := 10) (tx := "size") rfl dX8_leakValueNamed_4 ?_
  obtain ⟨hs_6, hq⟩ := bk_ck_some hq
  obtain ⟨r_5, hr_4, hq⟩ := bk_bd_some hq
  refine bk_callV (rest := []) (As := [.ref (G.2.2.2.1 10)]) (ro := (some (.int r_5))) (Y1 := Y) (V1 := V) C hH hl.1 (c_X9_isWord hr_4) mc_X9_isWord mv_X9_isWord lk_RX8_45 hs_6 rfl rfl ⟨rfl, rfl⟩ ⟨by decide, by decide⟩ rfl (Nat.le_of_ble_eq_true rfl) dX8_leakValueNamed_7 ⟨by decide, by decide⟩ (fun H locs hH => ?_)
  refine lv_if_eq (tgt := 15) hx hb dX8_leakValueNamed_10 (by decide) (fun hc_19 => ?_) (fun hc_19 => ?_)
  · rw [if_pos hc_19] at hq
    refine lv_aload_n hx hb dX8_leakValueNamed_15 rfl (lv_at hl 0 rfl) ?_
    refine bk_getr C hH fl_RX8_14 hs_1 rfl hr_3 dX8_leakValueNamed_16 ?_
    refine bk_ldcSW C (i := 11) (tx := "side") rfl dX8_leakValueNamed_19 ?_
    obtain ⟨r_8, hr_7, hq⟩ := bk_bd_some hq
    refine bk_callV (rest := []) (As := [.ref (G.2.2.2.1 11)]) (ro := (some (.int r_8))) (Y1 := Y) (V1 := V) C hH hl.1 (c_X9_isWord hr_7) mc_X9_isWord mv_X9_isWord lk_RX8_45 hs_6 rfl rfl ⟨rfl, rfl⟩ ⟨by decide, by decide⟩ rfl (Nat.le_of_ble_eq_true rfl) dX8_leakValueNamed_22 ⟨by decide, by decide⟩ (fun H locs hH => ?_)
    refine lv_if_eq (tgt := 30) hx hb dX8_leakValueNamed_25 (by decide) (fun hc_18 => ?_) (fun hc_18 => ?_)
    · rw [if_pos hc_18] at hq
      refine lv_aload_n hx hb dX8_leakValueNamed_30 rfl (lv_at hl 0 rfl) ?_
      refine bk_getr C hH fl_RX8_14 hs_1 rfl hr_3 dX8_leakValueNamed_31 ?_
      refine bk_ldcS C (i := 5) (tx := "pressure") rfl dX8_leakValueNamed_34 ?_
      obtain ⟨r_10, hr_9, hq⟩ := bk_bd_some hq
      refine bk_callV (rest := []) (As := [.ref (G.2.2.2.1 5)]) (ro := (some (.int r_10))) (Y1 := Y) (V1 := V) C hH hl.1 (c_X9_isWord hr_9) mc_X9_isWord mv_X9_isWord lk_RX8_45 hs_6 rfl rfl ⟨rfl, rfl⟩ ⟨by decide, by decide⟩ rfl (Nat.le_of_ble_eq_true rfl) dX8_leakValueNamed_36 ⟨by decide, by decide⟩ (fun H locs hH => ?_)
      refine lv_if_eq (tgt := 44) hx hb dX8_leakValueNamed_39 (by decide) (fun hc_17 => ?_) (fun hc_17 => ?_)
      · rw [if_pos hc_17] at hq
        refine lv_aload_n hx hb dX8_leakValueNamed_44 rfl (lv_at hl 0 rfl) ?_
        refine bk_getr C hH fl_RX8_14 hs_1 rfl hr_3 dX8_leakValueNamed_45 ?_
        refine bk_ldcSW C (i := 12) (tx := "minute") rfl dX8_leakValueNamed_48 ?_
        obtain ⟨r_12, hr_11, hq⟩ := bk_bd_some hq
        refine bk_callV (rest := []) (As := [.ref (G.2.2.2.1 12)]) (ro := (some (.int r_12))) (Y1 := Y) (V1 := V) C hH hl.1 (c_X9_isWord hr_11) mc_X9_isWord mv_X9_isWord lk_RX8_45 hs_6 rfl rfl ⟨rfl, rfl⟩ ⟨by decide, by decide⟩ rfl (Nat.le_of_ble_eq_true rfl) dX8_leakValueNamed_51 ⟨by decide, by decide⟩ (fun H locs hH => ?_)
        refine lv_if_eq (tgt := 59) hx hb dX8_leakValueNamed_54 (by decide) (fun hc_16 => ?_) (fun hc_16 => ?_)
        · rw [if_pos hc_16] at hq
          refine lv_aload_n hx hb dX8_leakValueNamed_59 rfl (lv_at hl 0 rfl) ?_
          refine bk_getr C hH fl_RX8_14 hs_1 rfl hr_3 dX8_leakValueNamed_60 ?_
          refine bk_ldcSW C (i := 13) (tx := "load") rfl dX8_leakValueNamed_63 ?_
          obtain ⟨r_14, hr_13, hq⟩ := bk_bd_some hq
          refine bk_callV (rest := []) (As := [.ref (G.2.2.2.1 13)]) (ro := (some (.int r_14))) (Y1 := Y) (V1 := V) C hH hl.1 (c_X9_isWord hr_13) mc_X9_isWord mv_X9_isWord lk_RX8_45 hs_6 rfl rfl ⟨rfl, rfl⟩ ⟨by decide, by decide⟩ rfl (Nat.le_of_ble_eq_true rfl) dX8_leakValueNamed_66 ⟨by decide, by decide⟩ (fun H locs hH => ?_)
          refine lv_if_eq (tgt := 76) hx hb dX8_leakValueNamed_69 (by decide) (fun hc_15 => ?_) (fun hc_15 => ?_)
          · rw [if_pos hc_15] at hq
            refine lv_iconst (v := (-1)) hx hb dX8_leakValueNamed_76 (by decide) ?_
            cases hq
            exact bk_iret C hH dX8_leakValueNamed_77
          · rw [if_neg hc_15] at hq
            refine lv_iconst (v := 4) hx hb dX8_leakValueNamed_72 (by decide) ?_
            refine lv_goto (tgt := 77) hx hb dX8_leakValueNamed_73 (by decide) ?_
            cases hq
            exact bk_iret C hH dX8_leakValueNamed_77
        · rw [if_neg hc_16] at hq
          refine lv_iconst (v := 3) hx hb dX8_leakValueNamed_57 (by decide) ?_
          cases hq
          exact bk_iret C hH dX8_leakValueNamed_58
      · rw [if_neg hc_17] at hq
        refine lv_iconst (v := 2) hx hb dX8_leakValueNamed_42 (by decide) ?_
        cases hq
        exact bk_iret C hH dX8_leakValueNamed_43
    · rw [if_neg hc_18] at hq
      refine lv_iconst (v := 1) hx hb dX8_leakValueNamed_28 (by decide) ?_
      cases hq
      exact bk_iret C hH dX8_leakValueNamed_29
  · rw [if_neg hc_19] at hq
    refine lv_iconst (v := 0) hx hb dX8_leakValueNamed_13 (by decide) ?_
    cases hq
    exact bk_iret C hH dX8_leakValueNamed_14
set_option maxRecDepth 100000 in
theorem c_X8_leakValueNamed {l : Launch} {G : bk_G} {N : Nat} {Y : bk_Lay} {V : bk_Val} {a0 : Nat} {out : Int32} (hq : q_X8_leakValueNamed N Y V a0 = some out) : Met l yX8_leakValueNamed (bk_ws yX8_leakValueNamed cX8_leakValueNamed 1 (some FieldType.int)) rm_X8_leakValueNamed (bk_Pc G [.ref a0] Y V) (bk_Q G (some (.int out)) Y V) 0 0 (bk_A G) :=
  bk_met (by decide) (Nat.le_of_ble_eq_true rfl) (fun p e s m args below meth c ls C hnm hH hl => w_X8_leakValueNamed C _ _ _ _ _ _ hl hH hq)

def rm_X8_holdsValueNamed : Room := bk_rm 6 0 0 172
set_option maxRecDepth 100000 in
set_option maxHeartbeats 4000000 in
theorem w_X8_holdsValueNamed (C : bk_C G p s m args meth c cX8_holdsValueNamed RX8 1 (some FieldType.int)) : ∀ (V : bk_Val) (a0 : Nat) (H : Heap) (locs : List Loc) (ls : Array Slot) (out : Int32), lv_has ls 1 [(0, .ref a0)] → bk_H G Y V s.heap H locs → q_X8_holdsValueNamed N Y V a0 = some out → W p l e rm_X8_holdsValueNamed s m args below meth c H locs 0 0 (MQ below (bk_Q G (some (.int out)) Y V) args s 0 0 (bk_A G)) (F0 m 0 ls []) := by
  have hx := C.1
  have hb := C.2.1
  intro V a0 H locs ls out hl hH hq
  unfold q_X8_holdsValueNamed at hq
  refine lv_aload_n hx hb dX8_holdsValueNamed_0 rfl (lv_at hl 0 rfl) ?_
  obtain ⟨hs_1, hq⟩ := bk_ck_some hq
  obtain ⟨b_2, hr_3, hq⟩ := bk_bd_some hq
  refine bk_getr C hH fl_RX8_14 hs_1 rfl hr_3 dX8_holdsValueNamed_1 ?_
  refine bk_ldcSW C (i := 10) (tx := "size") rfl dX8_holdsValueNamed_4 ?_
  obtain ⟨hs_6, hq⟩ := bk_ck_some hq
  obtain ⟨r_5, hr_4, hq⟩ := bk_bd_some hq
  refine bk_callV (rest := []) (As := [.ref (G.2.2.2.1 10)]) (ro := (some (.int r_5))) (Y1 := Y) (V1 := V) C hH hl.1 (c_X9_isWord hr_4) mc_X9_isWord mv_X9_isWord lk_RX8_45 hs_6 rfl rfl ⟨rfl, rfl⟩ ⟨by decide, by decide⟩ rfl (Nat.le_of_ble_eq_true rfl) dX8_holdsValueNamed_7 ⟨by decide, by decide⟩ (fun H locs hH => ?_)
  refine lv_if_eq (tgt := 15) hx hb dX8_holdsValueNamed_10 (by decide) (fun hc_22 => ?_) (fun hc_22 => ?_)
  · rw [if_pos hc_22] at hq
    refine lv_aload_n hx hb dX8_holdsValueNamed_15 rfl (lv_at hl 0 rfl) ?_
    refine bk_getr C hH fl_RX8_14 hs_1 rfl hr_3 dX8_holdsValueNamed_16 ?_
    refine bk_ldcSW C (i := 11) (tx := "side") rfl dX8_holdsValueNamed_19 ?_
    obtain ⟨r_8, hr_7, hq⟩ := bk_bd_some hq
    refine bk_callV (rest := []) (As := [.ref (G.2.2.2.1 11)]) (ro := (some (.int r_8))) (Y1 := Y) (V1 := V) C hH hl.1 (c_X9_isWord hr_7) mc_X9_isWord mv_X9_isWord lk_RX8_45 hs_6 rfl rfl ⟨rfl, rfl⟩ ⟨by decide, by decide⟩ rfl (Nat.le_of_ble_eq_true rfl) dX8_holdsValueNamed_22 ⟨by decide, by decide⟩ (fun H locs hH => ?_)
    refine lv_if_eq (tgt := 30) hx hb dX8_holdsValueNamed_25 (by decide) (fun hc_21 => ?_) (fun hc_21 => ?_)
    · rw [if_pos hc_21] at hq
      refine lv_aload_n hx hb dX8_holdsValueNamed_30 rfl (lv_at hl 0 rfl) ?_
      refine bk_getr C hH fl_RX8_14 hs_1 rfl hr_3 dX8_holdsValueNamed_31 ?_
      refine bk_ldcSW C (i := 14) (tx := "minutes") rfl dX8_holdsValueNamed_34 ?_
      obtain ⟨r_10, hr_9, hq⟩ := bk_bd_some hq
      refine bk_callV (rest := []) (As := [.ref (G.2.2.2.1 14)]) (ro := (some (.int r_10))) (Y1 := Y) (V1 := V) C hH hl.1 (c_X9_isWord hr_9) mc_X9_isWord mv_X9_isWord lk_RX8_45 hs_6 rfl rfl ⟨rfl, rfl⟩ ⟨by decide, by decide⟩ rfl (Nat.le_of_ble_eq_true rfl) dX8_holdsValueNamed_37 ⟨by decide, by decide⟩ (fun H locs hH => ?_)
      refine lv_if_eq (tgt := 45) hx hb dX8_holdsValueNamed_40 (by decide) (fun hc_20 => ?_) (fun hc_20 => ?_)
      · rw [if_pos hc_20] at hq
        refine lv_aload_n hx hb dX8_holdsValueNamed_45 rfl (lv_at hl 0 rfl) ?_
        refine bk_getr C hH fl_RX8_14 hs_1 rfl hr_3 dX8_holdsValueNamed_46 ?_
        refine bk_ldcSW C (i := 15) (tx := "cold") rfl dX8_holdsValueNamed_49 ?_
        obtain ⟨r_12, hr_11, hq⟩ := bk_bd_some hq
        refine bk_callV (rest := []) (As := [.ref (G.2.2.2.1 15)]) (ro := (some (.int r_12))) (Y1 := Y) (V1 := V) C hH hl.1 (c_X9_isWord hr_11) mc_X9_isWord mv_X9_isWord lk_RX8_45 hs_6 rfl rfl ⟨rfl, rfl⟩ ⟨by decide, by decide⟩ rfl (Nat.le_of_ble_eq_true rfl) dX8_holdsValueNamed_52 ⟨by decide, by decide⟩ (fun H locs hH => ?_)
        refine lv_if_eq (tgt := 60) hx hb dX8_holdsValueNamed_55 (by decide) (fun hc_19 => ?_) (fun hc_19 => ?_)
        · rw [if_pos hc_19] at hq
          refine lv_aload_n hx hb dX8_holdsValueNamed_60 rfl (lv_at hl 0 rfl) ?_
          refine bk_getr C hH fl_RX8_14 hs_1 rfl hr_3 dX8_holdsValueNamed_61 ?_
          refine bk_ldcSW C (i := 16) (tx := "damp") rfl dX8_holdsValueNamed_64 ?_
          obtain ⟨r_14, hr_13, hq⟩ := bk_bd_some hq
          refine bk_callV (rest := []) (As := [.ref (G.2.2.2.1 16)]) (ro := (some (.int r_14))) (Y1 := Y) (V1 := V) C hH hl.1 (c_X9_isWord hr_13) mc_X9_isWord mv_X9_isWord lk_RX8_45 hs_6 rfl rfl ⟨rfl, rfl⟩ ⟨by decide, by decide⟩ rfl (Nat.le_of_ble_eq_true rfl) dX8_holdsValueNamed_67 ⟨by decide, by decide⟩ (fun H locs hH => ?_)
          refine lv_if_eq (tgt := 75) hx hb dX8_holdsValueNamed_70 (by decide) (fun hc_18 => ?_) (fun hc_18 => ?_)
          · rw [if_pos hc_18] at hq
            refine lv_aload_n hx hb dX8_holdsValueNamed_75 rfl (lv_at hl 0 rfl) ?_
            refine bk_getr C hH fl_RX8_14 hs_1 rfl hr_3 dX8_holdsValueNamed_76 ?_
            refine bk_ldcSW C (i := 17) (tx := "near") rfl dX8_holdsValueNamed_79 ?_
            obtain ⟨r_16, hr_15, hq⟩ := bk_bd_some hq
            refine bk_callV (rest := []) (As := [.ref (G.2.2.2.1 17)]) (ro := (some (.int r_16))) (Y1 := Y) (V1 := V) C hH hl.1 (c_X9_isWord hr_15) mc_X9_isWord mv_X9_isWord lk_RX8_45 hs_6 rfl rfl ⟨rfl, rfl⟩ ⟨by decide, by decide⟩ rfl (Nat.le_of_ble_eq_true rfl) dX8_holdsValueNamed_82 ⟨by decide, by decide⟩ (fun H locs hH => ?_)
            refine lv_if_eq (tgt := 92) hx hb dX8_holdsValueNamed_85 (by decide) (fun hc_17 => ?_) (fun hc_17 => ?_)
            · rw [if_pos hc_17] at hq
              refine lv_iconst (v := (-1)) hx hb dX8_holdsValueNamed_92 (by decide) ?_
              cases hq
              exact bk_iret C hH dX8_holdsValueNamed_93
            · rw [if_neg hc_17] at hq
              refine lv_iconst (v := 5) hx hb dX8_holdsValueNamed_88 (by decide) ?_
              refine lv_goto (tgt := 93) hx hb dX8_holdsValueNamed_89 (by decide) ?_
              cases hq
              exact bk_iret C hH dX8_holdsValueNamed_93
          · rw [if_neg hc_18] at hq
            refine lv_iconst (v := 4) hx hb dX8_holdsValueNamed_73 (by decide) ?_
            cases hq
            exact bk_iret C hH dX8_holdsValueNamed_74
        · rw [if_neg hc_19] at hq
          refine lv_iconst (v := 3) hx hb dX8_holdsValueNamed_58 (by decide) ?_
          cases hq
          exact bk_iret C hH dX8_holdsValueNamed_59
      · rw [if_neg hc_20] at hq
        refine lv_iconst (v := 2) hx hb dX8_holdsValueNamed_43 (by decide) ?_
        cases hq
        exact bk_iret C hH dX8_holdsValueNamed_44
    · rw [if_neg hc_21] at hq
      refine lv_iconst (v := 1) hx hb dX8_holdsValueNamed_28 (by decide) ?_
      cases hq
      exact bk_iret C hH dX8_holdsValueNamed_29
  · rw [if_neg hc_22] at hq
    refine lv_iconst (v := 0) hx hb dX8_holdsValueNamed_13 (by decide) ?_
    cases hq
    exact bk_iret C hH dX8_holdsValueNamed_14
set_option maxRecDepth 100000 in
theorem c_X8_holdsValueNamed {l : Launch} {G : bk_G} {N : Nat} {Y : bk_Lay} {V : bk_Val} {a0 : Nat} {out : Int32} (hq : q_X8_holdsValueNamed N Y V a0 = some out) : Met l yX8_holdsValueNamed (bk_ws yX8_holdsValueNamed cX8_holdsValueNamed 1 (some FieldType.int)) rm_X8_holdsValueNamed (bk_Pc G [.ref a0] Y V) (bk_Q G (some (.int out)) Y V) 0 0 (bk_A G) :=
  bk_met (by decide) (Nat.le_of_ble_eq_true rfl) (fun p e s m args below meth c ls C hnm hH hl => w_X8_holdsValueNamed C _ _ _ _ _ _ hl hH hq)

def rm_X4_put : Room := bk_rm 0 0 0 0
set_option maxRecDepth 100000 in
set_option maxHeartbeats 4000000 in
theorem w_X4_put (C : bk_C G p s m args meth c cX4_put RX4 2 (none : Option FieldType)) : ∀ (V : bk_Val) (a0 : Nat) (x1 : Int32) (H : Heap) (locs : List Loc) (ls : Array Slot) (out : bk_Val), lv_has ls 2 [(0, .ref a0), (1, .int x1)] → bk_H G Y V s.heap H locs → q_X4_put N Y V a0 x1 = some out → W p l e rm_X4_put s m args below meth c H locs 0 0 (MQ below (bk_Q G none Y out) args s 0 0 (bk_A G)) (F0 m 0 ls []) := by
  have hx := C.1
  have hb := C.2.1
  intro V a0 x1 H locs ls out hl hH hq
  unfold q_X4_put at hq
  refine lv_aload_n hx hb dX4_put_0 rfl (lv_at hl 0 rfl) ?_
  obtain ⟨hs_1, hq⟩ := bk_ck_some hq
  refine bk_geti C hH fl_RX4_18 hs_1 rfl dX4_put_1 ?_
  refine lv_aload_n hx hb dX4_put_4 rfl (lv_at hl 0 rfl) ?_
  obtain ⟨b_2, hr_3, hq⟩ := bk_bd_some hq
  refine bk_getr C hH fl_RX4_9 hs_1 rfl hr_3 dX4_put_5 ?_
  obtain ⟨ha_4, hq⟩ := bk_ck_some hq
  refine bk_alen C hH (bk_arr ha_4) (by decide) dX4_put_8 ?_
  refine lv_icmp_ge (tgt := 32) hx hb dX4_put_9 (by decide) (fun hc_10 => ?_) (fun hc_10 => ?_)
  · rw [if_pos hc_10] at hq
    cases hq
    exact bk_vret C hH dX4_put_32
  · rw [if_neg hc_10] at hq
    refine lv_aload_n hx hb dX4_put_12 rfl (lv_at hl 0 rfl) ?_
    refine bk_getr C hH fl_RX4_9 hs_1 rfl hr_3 dX4_put_13 ?_
    refine lv_aload_n hx hb dX4_put_16 rfl (lv_at hl 0 rfl) ?_
    refine bk_geti C hH fl_RX4_18 hs_1 rfl dX4_put_17 ?_
    refine lv_iload_n hx hb dX4_put_20 rfl (lv_at hl 1 rfl) ?_
    obtain ⟨hi_5, hq⟩ := bk_ck_some hq
    refine bk_iast C hH (bk_arr ha_4) (bk_in_vp hi_5) dX4_put_21 (fun V_6 H locs e_7 hH => ?_)
    have hq := bk_let_eq e_7 hq
    refine lv_aload_n hx hb dX4_put_22 rfl (lv_at hl 0 rfl) ?_
    refine lv_dup hx hb dX4_put_23 rfl ?_
    refine bk_geti C hH fl_RX4_18 hs_1 rfl dX4_put_24 ?_
    refine lv_iconst (v := 1) hx hb dX4_put_27 (by decide) ?_
    refine lv_iadd hx hb dX4_put_28 ?_
    refine bk_puti C hH fp_RX4_18 (fun h => by cases h) hs_1 rfl dX4_put_29 (fun V_8 H locs e_9 hH => ?_)
    have hq := bk_let_eq e_9 hq
    cases hq
    exact bk_vret C hH dX4_put_32
set_option maxRecDepth 100000 in
theorem c_X4_put {l : Launch} {G : bk_G} {N : Nat} {Y : bk_Lay} {V : bk_Val} {a0 : Nat} {x1 : Int32} {out : bk_Val} (hq : q_X4_put N Y V a0 x1 = some out) : Met l yX4_put (bk_ws yX4_put cX4_put 2 (none : Option FieldType)) rm_X4_put (bk_Pc G [.ref a0, .int x1] Y V) (bk_Q G none Y out) 0 0 (bk_A G) :=
  bk_met (by decide) (Nat.le_of_ble_eq_true rfl) (fun p e s m args below meth c ls C hnm hH hl => w_X4_put C _ _ _ _ _ _ _ hl hH hq)

def rm_X4_putValue : Room := bk_rm 1 0 0 21
set_option maxRecDepth 100000 in
set_option maxHeartbeats 4000000 in
theorem w_X4_putValue (C : bk_C G p s m args meth c cX4_putValue RX4 2 (none : Option FieldType)) : ∀ (V : bk_Val) (a0 : Nat) (x1 : Int32) (H : Heap) (locs : List Loc) (ls : Array Slot) (out : bk_Val), lv_has ls 2 [(0, .ref a0), (1, .int x1)] → bk_H G Y V s.heap H locs → q_X4_putValue N Y V a0 x1 = some out → W p l e rm_X4_putValue s m args below meth c H locs 0 0 (MQ below (bk_Q G none Y out) args s 0 0 (bk_A G)) (F0 m 0 ls []) := by
  have hx := C.1
  have hb := C.2.1
  intro V a0 x1 H locs ls out hl hH hq
  unfold q_X4_putValue at hq
  refine lv_aload_n hx hb dX4_putValue_0 rfl (lv_at hl 0 rfl) ?_
  refine lv_sipush (v := 10000) hx hb dX4_putValue_1 (by decide) ?_
  refine lv_iload_n hx hb dX4_putValue_4 rfl (lv_at hl 1 rfl) ?_
  refine lv_iadd hx hb dX4_putValue_5 ?_
  obtain ⟨hs_3, hq⟩ := bk_ck_some hq
  obtain ⟨V_2, hr_1, hq⟩ := bk_bd_some hq
  refine bk_callV (rest := []) (As := [.int (10000 + x1)]) (ro := none) (Y1 := Y) (V1 := V_2) C hH hl.1 (c_X4_put hr_1) mc_X4_put mv_X4_put lk_RX4_22 hs_3 rfl rfl ⟨rfl, rfl⟩ ⟨by decide, by decide⟩ rfl (Nat.le_of_ble_eq_true rfl) dX4_putValue_6 ⟨by decide, by decide⟩ (fun H locs hH => ?_)
  cases hq
  exact bk_vret C hH dX4_putValue_9
set_option maxRecDepth 100000 in
theorem c_X4_putValue {l : Launch} {G : bk_G} {N : Nat} {Y : bk_Lay} {V : bk_Val} {a0 : Nat} {x1 : Int32} {out : bk_Val} (hq : q_X4_putValue N Y V a0 x1 = some out) : Met l yX4_putValue (bk_ws yX4_putValue cX4_putValue 2 (none : Option FieldType)) rm_X4_putValue (bk_Pc G [.ref a0, .int x1] Y V) (bk_Q G none Y out) 0 0 (bk_A G) :=
  bk_met (by decide) (Nat.le_of_ble_eq_true rfl) (fun p e s m args below meth c ls C hnm hH hl => w_X4_putValue C _ _ _ _ _ _ _ hl hH hq)

def re_X8 (d : Nat) : Room := bk_rm (7 * d + 27) 0 0 (168 * d + 568)
def rm_X8_readPart (d : Nat) : Room := bk_rm (7 * d + 28) 0 0 (168 * d + 592)
set_option maxRecDepth 100000 in
set_option maxHeartbeats 4000000 in
theorem w_X8_readPart_78 (C : bk_C G p s m args meth c cX8_readPart RX8 4 (some FieldType.boolean)) {d : Nat} {rc : bk_Val → Nat → Nat → Int32 → Option (Int32 × bk_Val)} (hrc : ∀ (V : bk_Val) (a0 a1 : Nat) (x2 : Int32) (out : Int32 × bk_Val), rc V a0 a1 x2 = some out → Met l yX8_readExpr (bk_ws yX8_readExpr cX8_readExpr 4 (some FieldType.boolean)) (re_X8 d) (bk_Pc G [.ref a0, .ref a1, .int x2] Y V) (bk_Q G (some (.int out.1)) Y out.2) 0 0 (bk_A G)) : ∀ (V : bk_Val) (a0 : Nat) (a1 : Nat) (sx0 : Int32) (H : Heap) (locs : List Loc) (ls : Array Slot) (out : Int32 × bk_Val), lv_has ls 4 [(0, .ref a0), (1, .ref a1)] → bk_H G Y V s.heap H locs → q_X8_readPart_78 N Y rc V a0 a1 sx0 = some out → W p l e (rm_X8_readPart d) s m args below meth c H locs 0 0 (MQ below (bk_Q G (some (.int out.1)) Y out.2) args s 0 0 (bk_A G)) (F0 m 78 ls [.int sx0]) := by
  have hx := C.1
  have hb := C.2.1
  intro V a0 a1 sx0 H locs ls out hl hH hq
  unfold q_X8_readPart_78 at hq
  refine lv_istore_n (lv' := [(3, .int sx0), (0, .ref a0), (1, .ref a1)]) hx hb dX8_readPart_78 rfl hl (by decide) rfl (fun ls hl => ?_)
  refine lv_iload_n hx hb dX8_readPart_79 rfl (lv_at hl 0 rfl) ?_
  refine lv_iconst (v := (-1)) hx hb dX8_readPart_80 (by decide) ?_
  refine lv_icmp_ne (tgt := 90) hx hb dX8_readPart_81 (by decide) (fun hc_14 => ?_) (fun hc_14 => ?_)
  · rw [if_neg hc_14] at hq
    refine lv_aload_n hx hb dX8_readPart_90 rfl (lv_at hl 2 rfl) ?_
    refine lv_iload_n hx hb dX8_readPart_91 rfl (lv_at hl 0 rfl) ?_
    obtain ⟨hs_3, hq⟩ := bk_ck_some hq
    obtain ⟨V_2, hr_1, hq⟩ := bk_bd_some hq
    refine bk_callV (rest := []) (As := [.int sx0]) (ro := none) (Y1 := Y) (V1 := V_2) C hH hl.1 (c_X4_putValue hr_1) mc_X4_putValue mv_X4_putValue lk_RX8_263 hs_3 rfl rfl ⟨rfl, rfl⟩ ⟨by simp only [bk_rm, rm_X8_readPart, rm_X4_putValue]; omega, by simp only [bk_rm, rm_X8_readPart, rm_X4_putValue]; omega⟩ rfl (Nat.le_of_ble_eq_true rfl) dX8_readPart_92 ⟨Nat.le_refl _, Nat.le_refl _⟩ (fun H locs hH => ?_)
    refine lv_aload_n hx hb dX8_readPart_95 rfl (lv_at hl 1 rfl) ?_
    obtain ⟨hs_4, hq⟩ := bk_ck_some hq
    obtain ⟨b_5, hr_6, hq⟩ := bk_bd_some hq
    refine bk_getr C hH fl_RX8_14 hs_4 rfl hr_6 dX8_readPart_96 ?_
    obtain ⟨hs_9, hq⟩ := bk_ck_some hq
    obtain ⟨V_8, hr_7, hq⟩ := bk_bd_some hq
    refine bk_callV (rest := []) (As := []) (ro := none) (Y1 := Y) (V1 := V_8) C hH hl.1 (c_X9_step hr_7) mc_X9_step mv_X9_step lk_RX8_49 hs_9 rfl rfl ⟨rfl, rfl⟩ ⟨by simp only [bk_rm, rm_X8_readPart, rm_X9_step]; omega, by simp only [bk_rm, rm_X8_readPart, rm_X9_step]; omega⟩ rfl (Nat.le_of_ble_eq_true rfl) dX8_readPart_99 ⟨Nat.le_refl _, Nat.le_refl _⟩ (fun H locs hH => ?_)
    refine lv_iconst (v := 1) hx hb dX8_readPart_102 (by decide) ?_
    cases hq
    exact bk_zret C hH (Or.inr rfl) dX8_readPart_103
  · rw [if_pos hc_14] at hq
    refine lv_aload_n hx hb dX8_readPart_84 rfl (lv_at hl 1 rfl) ?_
    refine lv_iconst (v := 3) hx hb dX8_readPart_85 (by decide) ?_
    obtain ⟨hs_13, hq⟩ := bk_ck_some hq
    obtain ⟨r_11, V_12, hr_10, hq⟩ := bk_bd2_some hq
    refine bk_callV (rest := []) (As := [.int 3]) (ro := (some (.int r_11))) (Y1 := Y) (V1 := V_12) C hH hl.1 (c_X8_refuse hr_10) mc_X8_refuse mv_X8_refuse lk_RX8_71 hs_13 rfl rfl ⟨rfl, rfl⟩ ⟨by simp only [bk_rm, rm_X8_readPart, rm_X8_refuse]; omega, by simp only [bk_rm, rm_X8_readPart, rm_X8_refuse]; omega⟩ rfl (Nat.le_of_ble_eq_true rfl) dX8_readPart_86 ⟨Nat.le_refl _, Nat.le_refl _⟩ (fun H locs hH => ?_)
    obtain ⟨hz9, hq⟩ := bk_ck_some hq
    cases hq
    exact bk_zret C hH hz9 dX8_readPart_89

set_option maxRecDepth 100000 in
set_option maxHeartbeats 4000000 in
theorem w_X8_readPart (C : bk_C G p s m args meth c cX8_readPart RX8 4 (some FieldType.boolean)) {d : Nat} {rc : bk_Val → Nat → Nat → Int32 → Option (Int32 × bk_Val)} (hrc : ∀ (V : bk_Val) (a0 a1 : Nat) (x2 : Int32) (out : Int32 × bk_Val), rc V a0 a1 x2 = some out → Met l yX8_readExpr (bk_ws yX8_readExpr cX8_readExpr 4 (some FieldType.boolean)) (re_X8 d) (bk_Pc G [.ref a0, .ref a1, .int x2] Y V) (bk_Q G (some (.int out.1)) Y out.2) 0 0 (bk_A G)) : ∀ (V : bk_Val) (a0 : Nat) (a1 : Nat) (x2 : Int32) (H : Heap) (locs : List Loc) (ls : Array Slot) (out : Int32 × bk_Val), lv_has ls 4 [(0, .ref a0), (1, .ref a1), (2, .int x2)] → bk_H G Y V s.heap H locs → q_X8_readPart N Y rc V a0 a1 x2 = some out → W p l e (rm_X8_readPart d) s m args below meth c H locs 0 0 (MQ below (bk_Q G (some (.int out.1)) Y out.2) args s 0 0 (bk_A G)) (F0 m 0 ls []) := by
  have hx := C.1
  have hb := C.2.1
  intro V a0 a1 x2 H locs ls out hl hH hq
  unfold q_X8_readPart at hq
  refine lv_aload_n hx hb dX8_readPart_0 rfl (lv_at hl 0 rfl) ?_
  obtain ⟨hs_15, hq⟩ := bk_ck_some hq
  obtain ⟨b_16, hr_17, hq⟩ := bk_bd_some hq
  refine bk_getr C hH fl_RX8_14 hs_15 rfl hr_17 dX8_readPart_1 ?_
  refine lv_bipush (v := 40) hx hb dX8_readPart_4 (by decide) ?_
  obtain ⟨hs_20, hq⟩ := bk_ck_some hq
  obtain ⟨r_19, hr_18, hq⟩ := bk_bd_some hq
  refine bk_callV (rest := []) (As := [.int 40]) (ro := (some (.int r_19))) (Y1 := Y) (V1 := V) C hH hl.1 (c_X9_isSign hr_18) mc_X9_isSign mv_X9_isSign lk_RX8_222 hs_20 rfl rfl ⟨rfl, rfl⟩ ⟨by simp only [bk_rm, rm_X8_readPart, rm_X9_isSign]; omega, by simp only [bk_rm, rm_X8_readPart, rm_X9_isSign]; omega⟩ rfl (Nat.le_of_ble_eq_true rfl) dX8_readPart_6 ⟨Nat.le_refl _, Nat.le_refl _⟩ (fun H locs hH => ?_)
  refine lv_if_eq (tgt := 45) hx hb dX8_readPart_9 (by decide) (fun hc_49 => ?_) (fun hc_49 => ?_)
  · rw [if_pos hc_49] at hq
    refine lv_aload_n hx hb dX8_readPart_45 rfl (lv_at hl 0 rfl) ?_
    refine bk_getr C hH fl_RX8_14 hs_15 rfl hr_17 dX8_readPart_46 ?_
    refine bk_geti C hH fl_RX8_60 hs_20 rfl dX8_readPart_49 ?_
    refine lv_iconst (v := 1) hx hb dX8_readPart_52 (by decide) ?_
    refine lv_icmp_ne (tgt := 104) hx hb dX8_readPart_53 (by decide) (fun hc_38 => ?_) (fun hc_38 => ?_)
    · rw [if_neg hc_38] at hq
      refine lv_aload_n hx hb dX8_readPart_104 rfl (lv_at hl 0 rfl) ?_
      refine lv_iconst (v := 0) hx hb dX8_readPart_105 (by decide) ?_
      refine lv_sipush (v := 9999) hx hb dX8_readPart_106 (by decide) ?_
      obtain ⟨r_22, V_23, hr_21, hq⟩ := bk_bd2_some hq
      refine bk_callV (rest := []) (As := [.int 0, .int 9999]) (ro := (some (.int r_22))) (Y1 := Y) (V1 := V_23) C hH hl.1 (c_X8_readNumber hr_21) mc_X8_readNumber mv_X8_readNumber lk_RX8_140 hs_15 rfl rfl ⟨rfl, rfl⟩ ⟨by simp only [bk_rm, rm_X8_readPart, rm_X8_readNumber]; omega, by simp only [bk_rm, rm_X8_readPart, rm_X8_readNumber]; omega⟩ rfl (Nat.le_of_ble_eq_true rfl) dX8_readPart_109 ⟨Nat.le_refl _, Nat.le_refl _⟩ (fun H locs hH => ?_)
      refine lv_if_ne (tgt := 117) hx hb dX8_readPart_112 (by decide) (fun hc_27 => ?_) (fun hc_27 => ?_)
      · rw [if_neg hc_27] at hq
        refine lv_aload_n hx hb dX8_readPart_117 rfl (lv_at hl 1 rfl) ?_
        refine lv_aload_n hx hb dX8_readPart_118 rfl (lv_at hl 0 rfl) ?_
        refine bk_geti C hH fl_RX8_147 hs_15 rfl dX8_readPart_119 ?_
        obtain ⟨hs_26, hq⟩ := bk_ck_some hq
        obtain ⟨V_25, hr_24, hq⟩ := bk_bd_some hq
        refine bk_callV (rest := []) (As := [.int (bk_rI V_23 a0 3)]) (ro := none) (Y1 := Y) (V1 := V_25) C hH hl.1 (c_X4_put hr_24) mc_X4_put mv_X4_put lk_RX8_235 hs_26 rfl rfl ⟨rfl, rfl⟩ ⟨by simp only [bk_rm, rm_X8_readPart, rm_X4_put]; omega, by simp only [bk_rm, rm_X8_readPart, rm_X4_put]; omega⟩ rfl (Nat.le_of_ble_eq_true rfl) dX8_readPart_122 ⟨Nat.le_refl _, Nat.le_refl _⟩ (fun H locs hH => ?_)
        refine lv_iconst (v := 1) hx hb dX8_readPart_125 (by decide) ?_
        cases hq
        exact bk_zret C hH (Or.inr rfl) dX8_readPart_126
      · rw [if_pos hc_27] at hq
        refine lv_iconst (v := 0) hx hb dX8_readPart_115 (by decide) ?_
        cases hq
        exact bk_zret C hH (Or.inl rfl) dX8_readPart_116
    · rw [if_pos hc_38] at hq
      refine lv_aload_n hx hb dX8_readPart_56 rfl (lv_at hl 1 rfl) ?_
      refine lv_aload_n hx hb dX8_readPart_57 rfl (lv_at hl 0 rfl) ?_
      obtain ⟨b_28, hr_29, hq⟩ := bk_bd_some hq
      refine bk_getr C hH fl_RX8_20 hs_15 rfl hr_29 dX8_readPart_58 ?_
      obtain ⟨hs_30, hq⟩ := bk_ck_some hq
      obtain ⟨b_31, hr_32, hq⟩ := bk_bd_some hq
      refine bk_getr C hH fl_RX8_86 hs_30 rfl hr_32 dX8_readPart_61 ?_
      refine lv_acmp_ne (rx := some a1) (ry := some b_31) (tgt := 74) hx hb dX8_readPart_64 (by decide) (fun hc_37 => ?_) (fun hc_37 => ?_)
      · rw [if_neg hc_37] at hq
        refine lv_aload_n hx hb dX8_readPart_74 rfl (lv_at hl 0 rfl) ?_
        obtain ⟨r_34, hr_33, hq⟩ := bk_bd_some hq
        refine bk_callV (rest := []) (As := []) (ro := (some (.int r_34))) (Y1 := Y) (V1 := V) C hH hl.1 (c_X8_holdsValueNamed hr_33) mc_X8_holdsValueNamed mv_X8_holdsValueNamed lk_RX8_260 hs_15 rfl rfl ⟨rfl, rfl⟩ ⟨by simp only [bk_rm, rm_X8_readPart, rm_X8_holdsValueNamed]; omega, by simp only [bk_rm, rm_X8_readPart, rm_X8_holdsValueNamed]; omega⟩ rfl (Nat.le_of_ble_eq_true rfl) dX8_readPart_75 ⟨Nat.le_refl _, Nat.le_refl _⟩ (fun H locs hH => ?_)
        exact w_X8_readPart_78 C hrc _ _ _ _ _ _ _ _ (lv_sub hl [0, 1] rfl) hH hq
      · rw [if_pos hc_37] at hq
        refine lv_aload_n hx hb dX8_readPart_67 rfl (lv_at hl 0 rfl) ?_
        obtain ⟨r_36, hr_35, hq⟩ := bk_bd_some hq
        refine bk_callV (rest := []) (As := []) (ro := (some (.int r_36))) (Y1 := Y) (V1 := V) C hH hl.1 (c_X8_leakValueNamed hr_35) mc_X8_leakValueNamed mv_X8_leakValueNamed lk_RX8_257 hs_15 rfl rfl ⟨rfl, rfl⟩ ⟨by simp only [bk_rm, rm_X8_readPart, rm_X8_leakValueNamed]; omega, by simp only [bk_rm, rm_X8_readPart, rm_X8_leakValueNamed]; omega⟩ rfl (Nat.le_of_ble_eq_true rfl) dX8_readPart_68 ⟨Nat.le_refl _, Nat.le_refl _⟩ (fun H locs hH => ?_)
        refine lv_goto (tgt := 78) hx hb dX8_readPart_71 (by decide) ?_
        exact w_X8_readPart_78 C hrc _ _ _ _ _ _ _ _ (lv_sub hl [0, 1] rfl) hH hq
  · rw [if_neg hc_49] at hq
    refine lv_aload_n hx hb dX8_readPart_12 rfl (lv_at hl 0 rfl) ?_
    refine bk_getr C hH fl_RX8_14 hs_15 rfl hr_17 dX8_readPart_13 ?_
    obtain ⟨V_40, hr_39, hq⟩ := bk_bd_some hq
    refine bk_callV (rest := []) (As := []) (ro := none) (Y1 := Y) (V1 := V_40) C hH hl.1 (c_X9_step hr_39) mc_X9_step mv_X9_step lk_RX8_49 hs_20 rfl rfl ⟨rfl, rfl⟩ ⟨by simp only [bk_rm, rm_X8_readPart, rm_X9_step]; omega, by simp only [bk_rm, rm_X8_readPart, rm_X9_step]; omega⟩ rfl (Nat.le_of_ble_eq_true rfl) dX8_readPart_16 ⟨Nat.le_refl _, Nat.le_refl _⟩ (fun H locs hH => ?_)
    refine lv_aload_n hx hb dX8_readPart_19 rfl (lv_at hl 0 rfl) ?_
    refine lv_aload_n hx hb dX8_readPart_20 rfl (lv_at hl 1 rfl) ?_
    refine lv_iload_n hx hb dX8_readPart_21 rfl (lv_at hl 2 rfl) ?_
    refine lv_iconst (v := 1) hx hb dX8_readPart_22 (by decide) ?_
    refine lv_iadd hx hb dX8_readPart_23 ?_
    obtain ⟨r_42, V_43, hr_41, hq⟩ := bk_bd2_some hq
    refine bk_callV (rest := []) (As := [.ref a1, .int (x2 + 1)]) (ro := (some (.int r_42))) (Y1 := Y) (V1 := V_43) C hH hl.1 (hrc _ _ _ _ _ hr_41) mc_X8_readExpr mv_X8_readExpr lk_RX8_90 hs_15 rfl rfl ⟨rfl, rfl⟩ ⟨by simp only [bk_rm, rm_X8_readPart, re_X8]; omega, by simp only [bk_rm, rm_X8_readPart, re_X8]; omega⟩ rfl (Nat.le_of_ble_eq_true rfl) dX8_readPart_24 ⟨Nat.le_refl _, Nat.le_refl _⟩ (fun H locs hH => ?_)
    refine lv_if_eq (tgt := 43) hx hb dX8_readPart_27 (by decide) (fun hc_48 => ?_) (fun hc_48 => ?_)
    · rw [if_pos hc_48] at hq
      refine lv_iconst (v := 0) hx hb dX8_readPart_43 (by decide) ?_
      cases hq
      exact bk_zret C hH (Or.inl rfl) dX8_readPart_44
    · rw [if_neg hc_48] at hq
      refine lv_aload_n hx hb dX8_readPart_30 rfl (lv_at hl 0 rfl) ?_
      refine lv_bipush (v := 41) hx hb dX8_readPart_31 (by decide) ?_
      obtain ⟨r_45, V_46, hr_44, hq⟩ := bk_bd2_some hq
      refine bk_callV (rest := []) (As := [.int 41]) (ro := (some (.int r_45))) (Y1 := Y) (V1 := V_46) C hH hl.1 (c_X8_readSign hr_44) mc_X8_readSign mv_X8_readSign lk_RX8_56 hs_15 rfl rfl ⟨rfl, rfl⟩ ⟨by simp only [bk_rm, rm_X8_readPart, rm_X8_readSign]; omega, by simp only [bk_rm, rm_X8_readPart, rm_X8_readSign]; omega⟩ rfl (Nat.le_of_ble_eq_true rfl) dX8_readPart_33 ⟨Nat.le_refl _, Nat.le_refl _⟩ (fun H locs hH => ?_)
      refine lv_if_eq (tgt := 43) hx hb dX8_readPart_36 (by decide) (fun hc_47 => ?_) (fun hc_47 => ?_)
      · rw [if_pos hc_47] at hq
        refine lv_iconst (v := 0) hx hb dX8_readPart_43 (by decide) ?_
        cases hq
        exact bk_zret C hH (Or.inl rfl) dX8_readPart_44
      · rw [if_neg hc_47] at hq
        refine lv_iconst (v := 1) hx hb dX8_readPart_39 (by decide) ?_
        refine lv_goto (tgt := 44) hx hb dX8_readPart_40 (by decide) ?_
        cases hq
        exact bk_zret C hH (Or.inr rfl) dX8_readPart_44
set_option maxRecDepth 100000 in
theorem c_X8_readPart {l : Launch} {G : bk_G} {N : Nat} {Y : bk_Lay} {V : bk_Val} {d : Nat} {rc : bk_Val → Nat → Nat → Int32 → Option (Int32 × bk_Val)} (hrc : ∀ (V : bk_Val) (a0 a1 : Nat) (x2 : Int32) (out : Int32 × bk_Val), rc V a0 a1 x2 = some out → Met l yX8_readExpr (bk_ws yX8_readExpr cX8_readExpr 4 (some FieldType.boolean)) (re_X8 d) (bk_Pc G [.ref a0, .ref a1, .int x2] Y V) (bk_Q G (some (.int out.1)) Y out.2) 0 0 (bk_A G)) {a0 : Nat} {a1 : Nat} {x2 : Int32} {out : Int32 × bk_Val} (hq : q_X8_readPart N Y rc V a0 a1 x2 = some out) : Met l yX8_readPart (bk_ws yX8_readPart cX8_readPart 4 (some FieldType.boolean)) (rm_X8_readPart d) (bk_Pc G [.ref a0, .ref a1, .int x2] Y V) (bk_Q G (some (.int out.1)) Y out.2) 0 0 (bk_A G) :=
  bk_met (by decide) (Nat.le_of_ble_eq_true rfl) (fun p e s m args below meth c ls C hnm hH hl => w_X8_readPart C hrc _ _ _ _ _ _ _ _ hl hH hq)

def rm_X8_readProduct (d : Nat) : Room := bk_rm (7 * d + 29) 0 0 (168 * d + 616)
set_option maxRecDepth 100000 in
set_option maxHeartbeats 4000000 in
theorem w_X8_readProduct_63 (C : bk_C G p s m args meth c cX8_readProduct RX8 5 (some FieldType.boolean)) {d : Nat} {rc : bk_Val → Nat → Nat → Int32 → Option (Int32 × bk_Val)} (hrc : ∀ (V : bk_Val) (a0 a1 : Nat) (x2 : Int32) (out : Int32 × bk_Val), rc V a0 a1 x2 = some out → Met l yX8_readExpr (bk_ws yX8_readExpr cX8_readExpr 4 (some FieldType.boolean)) (re_X8 d) (bk_Pc G [.ref a0, .ref a1, .int x2] Y V) (bk_Q G (some (.int out.1)) Y out.2) 0 0 (bk_A G)) (k13 : bk_Val → Nat → Nat → Int32 → Int32 → Option (Int32 × bk_Val)) (i13 : ∀ (V : bk_Val) (a0 : Nat) (a1 : Nat) (x2 : Int32) (x3 : Int32) (H : Heap) (locs : List Loc) (ls : Array Slot) (out : Int32 × bk_Val), lv_has ls 5 [(0, .ref a0), (1, .ref a1), (2, .int x2), (3, .int x3)] → bk_H G Y V s.heap H locs → k13 V a0 a1 x2 x3 = some out → W p l e (rm_X8_readProduct d) s m args below meth c H locs 0 0 (MQ below (bk_Q G (some (.int out.1)) Y out.2) args s 0 0 (bk_A G)) (F0 m 13 ls [])) : ∀ (V : bk_Val) (a0 : Nat) (a1 : Nat) (x2 : Int32) (x3 : Int32) (sx0 : Int32) (H : Heap) (locs : List Loc) (ls : Array Slot) (out : Int32 × bk_Val), lv_has ls 5 [(0, .ref a0), (1, .ref a1), (2, .int x2), (3, .int x3)] → bk_H G Y V s.heap H locs → q_X8_readProduct_63 N Y rc k13 V a0 a1 x2 x3 sx0 = some out → W p l e (rm_X8_readProduct d) s m args below meth c H locs 0 0 (MQ below (bk_Q G (some (.int out.1)) Y out.2) args s 0 0 (bk_A G)) (F0 m 63 ls [.int sx0]) := by
  have hx := C.1
  have hb := C.2.1
  intro V a0 a1 x2 x3 sx0 H locs ls out hl hH hq
  unfold q_X8_readProduct_63 at hq
  refine lv_istore (lv' := [(4, .int sx0), (0, .ref a0), (1, .ref a1), (2, .int x2), (3, .int x3)]) hx hb dX8_readProduct_63 hl (by decide) rfl (fun ls hl => ?_)
  refine lv_aload_n hx hb dX8_readProduct_65 rfl (lv_at hl 1 rfl) ?_
  obtain ⟨hs_1, hq⟩ := bk_ck_some hq
  obtain ⟨b_2, hr_3, hq⟩ := bk_bd_some hq
  refine bk_getr C hH fl_RX8_14 hs_1 rfl hr_3 dX8_readProduct_66 ?_
  obtain ⟨hs_6, hq⟩ := bk_ck_some hq
  obtain ⟨V_5, hr_4, hq⟩ := bk_bd_some hq
  refine bk_callV (rest := []) (As := []) (ro := none) (Y1 := Y) (V1 := V_5) C hH hl.1 (c_X9_step hr_4) mc_X9_step mv_X9_step lk_RX8_49 hs_6 rfl rfl ⟨rfl, rfl⟩ ⟨by simp only [bk_rm, rm_X8_readProduct, rm_X9_step]; omega, by simp only [bk_rm, rm_X8_readProduct, rm_X9_step]; omega⟩ rfl (Nat.le_of_ble_eq_true rfl) dX8_readProduct_69 ⟨Nat.le_refl _, Nat.le_refl _⟩ (fun H locs hH => ?_)
  refine lv_aload_n hx hb dX8_readProduct_72 rfl (lv_at hl 1 rfl) ?_
  refine lv_aload_n hx hb dX8_readProduct_73 rfl (lv_at hl 2 rfl) ?_
  refine lv_iload_n hx hb dX8_readProduct_74 rfl (lv_at hl 3 rfl) ?_
  obtain ⟨r_8, V_9, hr_7, hq⟩ := bk_bd2_some hq
  refine bk_callV (rest := []) (As := [.ref a1, .int x2]) (ro := (some (.int r_8))) (Y1 := Y) (V1 := V_9) C hH hl.1 (c_X8_readPart hrc hr_7) mc_X8_readPart mv_X8_readPart lk_RX8_254 hs_1 rfl rfl ⟨rfl, rfl⟩ ⟨by simp only [bk_rm, rm_X8_readProduct, rm_X8_readPart]; omega, by simp only [bk_rm, rm_X8_readProduct, rm_X8_readPart]; omega⟩ rfl (Nat.le_of_ble_eq_true rfl) dX8_readProduct_75 ⟨Nat.le_refl _, Nat.le_refl _⟩ (fun H locs hH => ?_)
  refine lv_if_ne (tgt := 83) hx hb dX8_readProduct_78 (by decide) (fun hc_13 => ?_) (fun hc_13 => ?_)
  · rw [if_neg hc_13] at hq
    refine lv_aload_n hx hb dX8_readProduct_83 rfl (lv_at hl 2 rfl) ?_
    refine lv_iload hx hb dX8_readProduct_84 (lv_at hl 0 rfl) ?_
    obtain ⟨hs_12, hq⟩ := bk_ck_some hq
    obtain ⟨V_11, hr_10, hq⟩ := bk_bd_some hq
    refine bk_callV (rest := []) (As := [.int sx0]) (ro := none) (Y1 := Y) (V1 := V_11) C hH hl.1 (c_X4_put hr_10) mc_X4_put mv_X4_put lk_RX8_235 hs_12 rfl rfl ⟨rfl, rfl⟩ ⟨by simp only [bk_rm, rm_X8_readProduct, rm_X4_put]; omega, by simp only [bk_rm, rm_X8_readProduct, rm_X4_put]; omega⟩ rfl (Nat.le_of_ble_eq_true rfl) dX8_readProduct_86 ⟨Nat.le_refl _, Nat.le_refl _⟩ (fun H locs hH => ?_)
    refine lv_iinc (v := (x3 + 1)) (lv' := [(3, .int (x3 + 1)), (4, .int sx0), (0, .ref a0), (1, .ref a1), (2, .int x2)]) hx hb dX8_readProduct_89 hl (k := 4) rfl rfl (by decide) rfl (fun ls hl => ?_)
    refine lv_goto (tgt := 13) hx hb dX8_readProduct_92 (by decide) ?_
    exact i13 _ _ _ _ _ _ _ _ _ (lv_sub hl [2, 3, 4, 0] rfl) hH hq
  · rw [if_pos hc_13] at hq
    refine lv_iconst (v := 0) hx hb dX8_readProduct_81 (by decide) ?_
    cases hq
    exact bk_zret C hH (Or.inl rfl) dX8_readProduct_82

set_option maxRecDepth 100000 in
set_option maxHeartbeats 4000000 in
theorem w_X8_readProduct_44 (C : bk_C G p s m args meth c cX8_readProduct RX8 5 (some FieldType.boolean)) {d : Nat} {rc : bk_Val → Nat → Nat → Int32 → Option (Int32 × bk_Val)} (hrc : ∀ (V : bk_Val) (a0 a1 : Nat) (x2 : Int32) (out : Int32 × bk_Val), rc V a0 a1 x2 = some out → Met l yX8_readExpr (bk_ws yX8_readExpr cX8_readExpr 4 (some FieldType.boolean)) (re_X8 d) (bk_Pc G [.ref a0, .ref a1, .int x2] Y V) (bk_Q G (some (.int out.1)) Y out.2) 0 0 (bk_A G)) (k13 : bk_Val → Nat → Nat → Int32 → Int32 → Option (Int32 × bk_Val)) (i13 : ∀ (V : bk_Val) (a0 : Nat) (a1 : Nat) (x2 : Int32) (x3 : Int32) (H : Heap) (locs : List Loc) (ls : Array Slot) (out : Int32 × bk_Val), lv_has ls 5 [(0, .ref a0), (1, .ref a1), (2, .int x2), (3, .int x3)] → bk_H G Y V s.heap H locs → k13 V a0 a1 x2 x3 = some out → W p l e (rm_X8_readProduct d) s m args below meth c H locs 0 0 (MQ below (bk_Q G (some (.int out.1)) Y out.2) args s 0 0 (bk_A G)) (F0 m 13 ls [])) : ∀ (V : bk_Val) (a0 : Nat) (a1 : Nat) (x2 : Int32) (x3 : Int32) (H : Heap) (locs : List Loc) (ls : Array Slot) (out : Int32 × bk_Val), lv_has ls 5 [(0, .ref a0), (1, .ref a1), (2, .int x2), (3, .int x3)] → bk_H G Y V s.heap H locs → q_X8_readProduct_44 N Y rc k13 V a0 a1 x2 x3 = some out → W p l e (rm_X8_readProduct d) s m args below meth c H locs 0 0 (MQ below (bk_Q G (some (.int out.1)) Y out.2) args s 0 0 (bk_A G)) (F0 m 44 ls []) := by
  have hx := C.1
  have hb := C.2.1
  intro V a0 a1 x2 x3 H locs ls out hl hH hq
  unfold q_X8_readProduct_44 at hq
  refine lv_aload_n hx hb dX8_readProduct_44 rfl (lv_at hl 0 rfl) ?_
  obtain ⟨hs_14, hq⟩ := bk_ck_some hq
  obtain ⟨b_15, hr_16, hq⟩ := bk_bd_some hq
  refine bk_getr C hH fl_RX8_14 hs_14 rfl hr_16 dX8_readProduct_45 ?_
  refine lv_bipush (v := 42) hx hb dX8_readProduct_48 (by decide) ?_
  obtain ⟨hs_19, hq⟩ := bk_ck_some hq
  obtain ⟨r_18, hr_17, hq⟩ := bk_bd_some hq
  refine bk_callV (rest := []) (As := [.int 42]) (ro := (some (.int r_18))) (Y1 := Y) (V1 := V) C hH hl.1 (c_X9_isSign hr_17) mc_X9_isSign mv_X9_isSign lk_RX8_222 hs_19 rfl rfl ⟨rfl, rfl⟩ ⟨by simp only [bk_rm, rm_X8_readProduct, rm_X9_isSign]; omega, by simp only [bk_rm, rm_X8_readProduct, rm_X9_isSign]; omega⟩ rfl (Nat.le_of_ble_eq_true rfl) dX8_readProduct_50 ⟨Nat.le_refl _, Nat.le_refl _⟩ (fun H locs hH => ?_)
  refine lv_if_eq (tgt := 61) hx hb dX8_readProduct_53 (by decide) (fun hc_20 => ?_) (fun hc_20 => ?_)
  · rw [if_pos hc_20] at hq
    refine lv_bipush (v := (-9)) hx hb dX8_readProduct_61 (by decide) ?_
    exact w_X8_readProduct_63 C hrc _ i13 _ _ _ _ _ _ _ _ _ _ (lv_sub hl [0, 1, 2, 3] rfl) hH hq
  · rw [if_neg hc_20] at hq
    refine lv_bipush (v := (-8)) hx hb dX8_readProduct_56 (by decide) ?_
    refine lv_goto (tgt := 63) hx hb dX8_readProduct_58 (by decide) ?_
    exact w_X8_readProduct_63 C hrc _ i13 _ _ _ _ _ _ _ _ _ _ (lv_sub hl [0, 1, 2, 3] rfl) hH hq

set_option maxRecDepth 100000 in
set_option maxHeartbeats 4000000 in
theorem w_X8_readProduct_13 (C : bk_C G p s m args meth c cX8_readProduct RX8 5 (some FieldType.boolean)) {d : Nat} {rc : bk_Val → Nat → Nat → Int32 → Option (Int32 × bk_Val)} (hrc : ∀ (V : bk_Val) (a0 a1 : Nat) (x2 : Int32) (out : Int32 × bk_Val), rc V a0 a1 x2 = some out → Met l yX8_readExpr (bk_ws yX8_readExpr cX8_readExpr 4 (some FieldType.boolean)) (re_X8 d) (bk_Pc G [.ref a0, .ref a1, .int x2] Y V) (bk_Q G (some (.int out.1)) Y out.2) 0 0 (bk_A G)) : ∀ (n : Nat), ∀ (V : bk_Val) (a0 : Nat) (a1 : Nat) (x2 : Int32) (x3 : Int32) (H : Heap) (locs : List Loc) (ls : Array Slot) (out : Int32 × bk_Val), lv_has ls 5 [(0, .ref a0), (1, .ref a1), (2, .int x2), (3, .int x3)] → bk_H G Y V s.heap H locs → q_X8_readProduct_13 N Y rc n V a0 a1 x2 x3 = some out → W p l e (rm_X8_readProduct d) s m args below meth c H locs 0 0 (MQ below (bk_Q G (some (.int out.1)) Y out.2) args s 0 0 (bk_A G)) (F0 m 13 ls []) := by
  have hx := C.1
  have hb := C.2.1
  intro n
  induction n with
  | zero =>
    intro V a0 a1 x2 x3 H locs ls out hl hH hq
    exact nomatch (show (none : Option (Int32 × bk_Val)) = some out from hq)
  | succ n ih =>
    intro V a0 a1 x2 x3 H locs ls out hl hH hq
    unfold q_X8_readProduct_13 at hq
    refine lv_iload_n hx hb dX8_readProduct_13 rfl (lv_at hl 3 rfl) ?_
    refine lv_sipush (v := 700) hx hb dX8_readProduct_14 (by decide) ?_
    refine lv_icmp_ge (tgt := 95) hx hb dX8_readProduct_17 (by decide) (fun hc_31 => ?_) (fun hc_31 => ?_)
    · rw [if_pos hc_31] at hq
      refine lv_iconst (v := 1) hx hb dX8_readProduct_95 (by decide) ?_
      cases hq
      exact bk_zret C hH (Or.inr rfl) dX8_readProduct_96
    · rw [if_neg hc_31] at hq
      refine lv_aload_n hx hb dX8_readProduct_20 rfl (lv_at hl 0 rfl) ?_
      obtain ⟨hs_21, hq⟩ := bk_ck_some hq
      obtain ⟨b_22, hr_23, hq⟩ := bk_bd_some hq
      refine bk_getr C hH fl_RX8_14 hs_21 rfl hr_23 dX8_readProduct_21 ?_
      refine lv_bipush (v := 42) hx hb dX8_readProduct_24 (by decide) ?_
      obtain ⟨hs_26, hq⟩ := bk_ck_some hq
      obtain ⟨r_25, hr_24, hq⟩ := bk_bd_some hq
      refine bk_callV (rest := []) (As := [.int 42]) (ro := (some (.int r_25))) (Y1 := Y) (V1 := V) C hH hl.1 (c_X9_isSign hr_24) mc_X9_isSign mv_X9_isSign lk_RX8_222 hs_26 rfl rfl ⟨rfl, rfl⟩ ⟨by simp only [bk_rm, rm_X8_readProduct, rm_X9_isSign]; omega, by simp only [bk_rm, rm_X8_readProduct, rm_X9_isSign]; omega⟩ rfl (Nat.le_of_ble_eq_true rfl) dX8_readProduct_26 ⟨Nat.le_refl _, Nat.le_refl _⟩ (fun H locs hH => ?_)
      refine lv_if_ne (tgt := 44) hx hb dX8_readProduct_29 (by decide) (fun hc_30 => ?_) (fun hc_30 => ?_)
      · rw [if_neg hc_30] at hq
        exact w_X8_readProduct_44 C hrc _ ih _ _ _ _ _ _ _ _ _ (lv_sub hl [0, 1, 2, 3] rfl) hH hq
      · rw [if_pos hc_30] at hq
        refine lv_aload_n hx hb dX8_readProduct_32 rfl (lv_at hl 0 rfl) ?_
        refine bk_getr C hH fl_RX8_14 hs_21 rfl hr_23 dX8_readProduct_33 ?_
        refine lv_bipush (v := 47) hx hb dX8_readProduct_36 (by decide) ?_
        obtain ⟨r_28, hr_27, hq⟩ := bk_bd_some hq
        refine bk_callV (rest := []) (As := [.int 47]) (ro := (some (.int r_28))) (Y1 := Y) (V1 := V) C hH hl.1 (c_X9_isSign hr_27) mc_X9_isSign mv_X9_isSign lk_RX8_222 hs_26 rfl rfl ⟨rfl, rfl⟩ ⟨by simp only [bk_rm, rm_X8_readProduct, rm_X9_isSign]; omega, by simp only [bk_rm, rm_X8_readProduct, rm_X9_isSign]; omega⟩ rfl (Nat.le_of_ble_eq_true rfl) dX8_readProduct_38 ⟨Nat.le_refl _, Nat.le_refl _⟩ (fun H locs hH => ?_)
        refine lv_if_eq (tgt := 95) hx hb dX8_readProduct_41 (by decide) (fun hc_29 => ?_) (fun hc_29 => ?_)
        · rw [if_pos hc_29] at hq
          refine lv_iconst (v := 1) hx hb dX8_readProduct_95 (by decide) ?_
          cases hq
          exact bk_zret C hH (Or.inr rfl) dX8_readProduct_96
        · rw [if_neg hc_29] at hq
          exact w_X8_readProduct_44 C hrc _ ih _ _ _ _ _ _ _ _ _ (lv_sub hl [0, 1, 2, 3] rfl) hH hq

set_option maxRecDepth 100000 in
set_option maxHeartbeats 4000000 in
theorem w_X8_readProduct (C : bk_C G p s m args meth c cX8_readProduct RX8 5 (some FieldType.boolean)) {d : Nat} {rc : bk_Val → Nat → Nat → Int32 → Option (Int32 × bk_Val)} (hrc : ∀ (V : bk_Val) (a0 a1 : Nat) (x2 : Int32) (out : Int32 × bk_Val), rc V a0 a1 x2 = some out → Met l yX8_readExpr (bk_ws yX8_readExpr cX8_readExpr 4 (some FieldType.boolean)) (re_X8 d) (bk_Pc G [.ref a0, .ref a1, .int x2] Y V) (bk_Q G (some (.int out.1)) Y out.2) 0 0 (bk_A G)) : ∀ (V : bk_Val) (a0 : Nat) (a1 : Nat) (x2 : Int32) (H : Heap) (locs : List Loc) (ls : Array Slot) (out : Int32 × bk_Val), lv_has ls 5 [(0, .ref a0), (1, .ref a1), (2, .int x2)] → bk_H G Y V s.heap H locs → q_X8_readProduct N Y rc V a0 a1 x2 = some out → W p l e (rm_X8_readProduct d) s m args below meth c H locs 0 0 (MQ below (bk_Q G (some (.int out.1)) Y out.2) args s 0 0 (bk_A G)) (F0 m 0 ls []) := by
  have hx := C.1
  have hb := C.2.1
  intro V a0 a1 x2 H locs ls out hl hH hq
  unfold q_X8_readProduct at hq
  refine lv_aload_n hx hb dX8_readProduct_0 rfl (lv_at hl 0 rfl) ?_
  refine lv_aload_n hx hb dX8_readProduct_1 rfl (lv_at hl 1 rfl) ?_
  refine lv_iload_n hx hb dX8_readProduct_2 rfl (lv_at hl 2 rfl) ?_
  obtain ⟨hs_35, hq⟩ := bk_ck_some hq
  obtain ⟨r_33, V_34, hr_32, hq⟩ := bk_bd2_some hq
  refine bk_callV (rest := []) (As := [.ref a1, .int x2]) (ro := (some (.int r_33))) (Y1 := Y) (V1 := V_34) C hH hl.1 (c_X8_readPart hrc hr_32) mc_X8_readPart mv_X8_readPart lk_RX8_254 hs_35 rfl rfl ⟨rfl, rfl⟩ ⟨by simp only [bk_rm, rm_X8_readProduct, rm_X8_readPart]; omega, by simp only [bk_rm, rm_X8_readProduct, rm_X8_readPart]; omega⟩ rfl (Nat.le_of_ble_eq_true rfl) dX8_readProduct_3 ⟨Nat.le_refl _, Nat.le_refl _⟩ (fun H locs hH => ?_)
  refine lv_if_ne (tgt := 11) hx hb dX8_readProduct_6 (by decide) (fun hc_36 => ?_) (fun hc_36 => ?_)
  · rw [if_neg hc_36] at hq
    refine lv_iconst (v := 0) hx hb dX8_readProduct_11 (by decide) ?_
    refine lv_istore_n (lv' := [(3, .int 0), (0, .ref a0), (1, .ref a1), (2, .int x2)]) hx hb dX8_readProduct_12 rfl hl (by decide) rfl (fun ls hl => ?_)
    exact w_X8_readProduct_13 C hrc _ _ _ _ _ _ _ _ _ _ (lv_sub hl [1, 2, 3, 0] rfl) hH hq
  · rw [if_pos hc_36] at hq
    refine lv_iconst (v := 0) hx hb dX8_readProduct_9 (by decide) ?_
    cases hq
    exact bk_zret C hH (Or.inl rfl) dX8_readProduct_10
set_option maxRecDepth 100000 in
theorem c_X8_readProduct {l : Launch} {G : bk_G} {N : Nat} {Y : bk_Lay} {V : bk_Val} {d : Nat} {rc : bk_Val → Nat → Nat → Int32 → Option (Int32 × bk_Val)} (hrc : ∀ (V : bk_Val) (a0 a1 : Nat) (x2 : Int32) (out : Int32 × bk_Val), rc V a0 a1 x2 = some out → Met l yX8_readExpr (bk_ws yX8_readExpr cX8_readExpr 4 (some FieldType.boolean)) (re_X8 d) (bk_Pc G [.ref a0, .ref a1, .int x2] Y V) (bk_Q G (some (.int out.1)) Y out.2) 0 0 (bk_A G)) {a0 : Nat} {a1 : Nat} {x2 : Int32} {out : Int32 × bk_Val} (hq : q_X8_readProduct N Y rc V a0 a1 x2 = some out) : Met l yX8_readProduct (bk_ws yX8_readProduct cX8_readProduct 5 (some FieldType.boolean)) (rm_X8_readProduct d) (bk_Pc G [.ref a0, .ref a1, .int x2] Y V) (bk_Q G (some (.int out.1)) Y out.2) 0 0 (bk_A G) :=
  bk_met (by decide) (Nat.le_of_ble_eq_true rfl) (fun p e s m args below meth c ls C hnm hH hl => w_X8_readProduct C hrc _ _ _ _ _ _ _ _ hl hH hq)

def rm_X8_readSum (d : Nat) : Room := bk_rm (7 * d + 30) 0 0 (168 * d + 640)
set_option maxRecDepth 100000 in
set_option maxHeartbeats 4000000 in
theorem w_X8_readSum_63 (C : bk_C G p s m args meth c cX8_readSum RX8 5 (some FieldType.boolean)) {d : Nat} {rc : bk_Val → Nat → Nat → Int32 → Option (Int32 × bk_Val)} (hrc : ∀ (V : bk_Val) (a0 a1 : Nat) (x2 : Int32) (out : Int32 × bk_Val), rc V a0 a1 x2 = some out → Met l yX8_readExpr (bk_ws yX8_readExpr cX8_readExpr 4 (some FieldType.boolean)) (re_X8 d) (bk_Pc G [.ref a0, .ref a1, .int x2] Y V) (bk_Q G (some (.int out.1)) Y out.2) 0 0 (bk_A G)) (k13 : bk_Val → Nat → Nat → Int32 → Int32 → Option (Int32 × bk_Val)) (i13 : ∀ (V : bk_Val) (a0 : Nat) (a1 : Nat) (x2 : Int32) (x3 : Int32) (H : Heap) (locs : List Loc) (ls : Array Slot) (out : Int32 × bk_Val), lv_has ls 5 [(0, .ref a0), (1, .ref a1), (2, .int x2), (3, .int x3)] → bk_H G Y V s.heap H locs → k13 V a0 a1 x2 x3 = some out → W p l e (rm_X8_readSum d) s m args below meth c H locs 0 0 (MQ below (bk_Q G (some (.int out.1)) Y out.2) args s 0 0 (bk_A G)) (F0 m 13 ls [])) : ∀ (V : bk_Val) (a0 : Nat) (a1 : Nat) (x2 : Int32) (x3 : Int32) (sx0 : Int32) (H : Heap) (locs : List Loc) (ls : Array Slot) (out : Int32 × bk_Val), lv_has ls 5 [(0, .ref a0), (1, .ref a1), (2, .int x2), (3, .int x3)] → bk_H G Y V s.heap H locs → q_X8_readSum_63 N Y rc k13 V a0 a1 x2 x3 sx0 = some out → W p l e (rm_X8_readSum d) s m args below meth c H locs 0 0 (MQ below (bk_Q G (some (.int out.1)) Y out.2) args s 0 0 (bk_A G)) (F0 m 63 ls [.int sx0]) := by
  have hx := C.1
  have hb := C.2.1
  intro V a0 a1 x2 x3 sx0 H locs ls out hl hH hq
  unfold q_X8_readSum_63 at hq
  refine lv_istore (lv' := [(4, .int sx0), (0, .ref a0), (1, .ref a1), (2, .int x2), (3, .int x3)]) hx hb dX8_readSum_63 hl (by decide) rfl (fun ls hl => ?_)
  refine lv_aload_n hx hb dX8_readSum_65 rfl (lv_at hl 1 rfl) ?_
  obtain ⟨hs_1, hq⟩ := bk_ck_some hq
  obtain ⟨b_2, hr_3, hq⟩ := bk_bd_some hq
  refine bk_getr C hH fl_RX8_14 hs_1 rfl hr_3 dX8_readSum_66 ?_
  obtain ⟨hs_6, hq⟩ := bk_ck_some hq
  obtain ⟨V_5, hr_4, hq⟩ := bk_bd_some hq
  refine bk_callV (rest := []) (As := []) (ro := none) (Y1 := Y) (V1 := V_5) C hH hl.1 (c_X9_step hr_4) mc_X9_step mv_X9_step lk_RX8_49 hs_6 rfl rfl ⟨rfl, rfl⟩ ⟨by simp only [bk_rm, rm_X8_readSum, rm_X9_step]; omega, by simp only [bk_rm, rm_X8_readSum, rm_X9_step]; omega⟩ rfl (Nat.le_of_ble_eq_true rfl) dX8_readSum_69 ⟨Nat.le_refl _, Nat.le_refl _⟩ (fun H locs hH => ?_)
  refine lv_aload_n hx hb dX8_readSum_72 rfl (lv_at hl 1 rfl) ?_
  refine lv_aload_n hx hb dX8_readSum_73 rfl (lv_at hl 2 rfl) ?_
  refine lv_iload_n hx hb dX8_readSum_74 rfl (lv_at hl 3 rfl) ?_
  obtain ⟨r_8, V_9, hr_7, hq⟩ := bk_bd2_some hq
  refine bk_callV (rest := []) (As := [.ref a1, .int x2]) (ro := (some (.int r_8))) (Y1 := Y) (V1 := V_9) C hH hl.1 (c_X8_readProduct hrc hr_7) mc_X8_readProduct mv_X8_readProduct lk_RX8_251 hs_1 rfl rfl ⟨rfl, rfl⟩ ⟨by simp only [bk_rm, rm_X8_readSum, rm_X8_readProduct]; omega, by simp only [bk_rm, rm_X8_readSum, rm_X8_readProduct]; omega⟩ rfl (Nat.le_of_ble_eq_true rfl) dX8_readSum_75 ⟨Nat.le_refl _, Nat.le_refl _⟩ (fun H locs hH => ?_)
  refine lv_if_ne (tgt := 83) hx hb dX8_readSum_78 (by decide) (fun hc_13 => ?_) (fun hc_13 => ?_)
  · rw [if_neg hc_13] at hq
    refine lv_aload_n hx hb dX8_readSum_83 rfl (lv_at hl 2 rfl) ?_
    refine lv_iload hx hb dX8_readSum_84 (lv_at hl 0 rfl) ?_
    obtain ⟨hs_12, hq⟩ := bk_ck_some hq
    obtain ⟨V_11, hr_10, hq⟩ := bk_bd_some hq
    refine bk_callV (rest := []) (As := [.int sx0]) (ro := none) (Y1 := Y) (V1 := V_11) C hH hl.1 (c_X4_put hr_10) mc_X4_put mv_X4_put lk_RX8_235 hs_12 rfl rfl ⟨rfl, rfl⟩ ⟨by simp only [bk_rm, rm_X8_readSum, rm_X4_put]; omega, by simp only [bk_rm, rm_X8_readSum, rm_X4_put]; omega⟩ rfl (Nat.le_of_ble_eq_true rfl) dX8_readSum_86 ⟨Nat.le_refl _, Nat.le_refl _⟩ (fun H locs hH => ?_)
    refine lv_iinc (v := (x3 + 1)) (lv' := [(3, .int (x3 + 1)), (4, .int sx0), (0, .ref a0), (1, .ref a1), (2, .int x2)]) hx hb dX8_readSum_89 hl (k := 4) rfl rfl (by decide) rfl (fun ls hl => ?_)
    refine lv_goto (tgt := 13) hx hb dX8_readSum_92 (by decide) ?_
    exact i13 _ _ _ _ _ _ _ _ _ (lv_sub hl [2, 3, 4, 0] rfl) hH hq
  · rw [if_pos hc_13] at hq
    refine lv_iconst (v := 0) hx hb dX8_readSum_81 (by decide) ?_
    cases hq
    exact bk_zret C hH (Or.inl rfl) dX8_readSum_82

set_option maxRecDepth 100000 in
set_option maxHeartbeats 4000000 in
theorem w_X8_readSum_44 (C : bk_C G p s m args meth c cX8_readSum RX8 5 (some FieldType.boolean)) {d : Nat} {rc : bk_Val → Nat → Nat → Int32 → Option (Int32 × bk_Val)} (hrc : ∀ (V : bk_Val) (a0 a1 : Nat) (x2 : Int32) (out : Int32 × bk_Val), rc V a0 a1 x2 = some out → Met l yX8_readExpr (bk_ws yX8_readExpr cX8_readExpr 4 (some FieldType.boolean)) (re_X8 d) (bk_Pc G [.ref a0, .ref a1, .int x2] Y V) (bk_Q G (some (.int out.1)) Y out.2) 0 0 (bk_A G)) (k13 : bk_Val → Nat → Nat → Int32 → Int32 → Option (Int32 × bk_Val)) (i13 : ∀ (V : bk_Val) (a0 : Nat) (a1 : Nat) (x2 : Int32) (x3 : Int32) (H : Heap) (locs : List Loc) (ls : Array Slot) (out : Int32 × bk_Val), lv_has ls 5 [(0, .ref a0), (1, .ref a1), (2, .int x2), (3, .int x3)] → bk_H G Y V s.heap H locs → k13 V a0 a1 x2 x3 = some out → W p l e (rm_X8_readSum d) s m args below meth c H locs 0 0 (MQ below (bk_Q G (some (.int out.1)) Y out.2) args s 0 0 (bk_A G)) (F0 m 13 ls [])) : ∀ (V : bk_Val) (a0 : Nat) (a1 : Nat) (x2 : Int32) (x3 : Int32) (H : Heap) (locs : List Loc) (ls : Array Slot) (out : Int32 × bk_Val), lv_has ls 5 [(0, .ref a0), (1, .ref a1), (2, .int x2), (3, .int x3)] → bk_H G Y V s.heap H locs → q_X8_readSum_44 N Y rc k13 V a0 a1 x2 x3 = some out → W p l e (rm_X8_readSum d) s m args below meth c H locs 0 0 (MQ below (bk_Q G (some (.int out.1)) Y out.2) args s 0 0 (bk_A G)) (F0 m 44 ls []) := by
  have hx := C.1
  have hb := C.2.1
  intro V a0 a1 x2 x3 H locs ls out hl hH hq
  unfold q_X8_readSum_44 at hq
  refine lv_aload_n hx hb dX8_readSum_44 rfl (lv_at hl 0 rfl) ?_
  obtain ⟨hs_14, hq⟩ := bk_ck_some hq
  obtain ⟨b_15, hr_16, hq⟩ := bk_bd_some hq
  refine bk_getr C hH fl_RX8_14 hs_14 rfl hr_16 dX8_readSum_45 ?_
  refine lv_bipush (v := 43) hx hb dX8_readSum_48 (by decide) ?_
  obtain ⟨hs_19, hq⟩ := bk_ck_some hq
  obtain ⟨r_18, hr_17, hq⟩ := bk_bd_some hq
  refine bk_callV (rest := []) (As := [.int 43]) (ro := (some (.int r_18))) (Y1 := Y) (V1 := V) C hH hl.1 (c_X9_isSign hr_17) mc_X9_isSign mv_X9_isSign lk_RX8_222 hs_19 rfl rfl ⟨rfl, rfl⟩ ⟨by simp only [bk_rm, rm_X8_readSum, rm_X9_isSign]; omega, by simp only [bk_rm, rm_X8_readSum, rm_X9_isSign]; omega⟩ rfl (Nat.le_of_ble_eq_true rfl) dX8_readSum_50 ⟨Nat.le_refl _, Nat.le_refl _⟩ (fun H locs hH => ?_)
  refine lv_if_eq (tgt := 61) hx hb dX8_readSum_53 (by decide) (fun hc_20 => ?_) (fun hc_20 => ?_)
  · rw [if_pos hc_20] at hq
    refine lv_bipush (v := (-7)) hx hb dX8_readSum_61 (by decide) ?_
    exact w_X8_readSum_63 C hrc _ i13 _ _ _ _ _ _ _ _ _ _ (lv_sub hl [0, 1, 2, 3] rfl) hH hq
  · rw [if_neg hc_20] at hq
    refine lv_bipush (v := (-6)) hx hb dX8_readSum_56 (by decide) ?_
    refine lv_goto (tgt := 63) hx hb dX8_readSum_58 (by decide) ?_
    exact w_X8_readSum_63 C hrc _ i13 _ _ _ _ _ _ _ _ _ _ (lv_sub hl [0, 1, 2, 3] rfl) hH hq

set_option maxRecDepth 100000 in
set_option maxHeartbeats 4000000 in
theorem w_X8_readSum_13 (C : bk_C G p s m args meth c cX8_readSum RX8 5 (some FieldType.boolean)) {d : Nat} {rc : bk_Val → Nat → Nat → Int32 → Option (Int32 × bk_Val)} (hrc : ∀ (V : bk_Val) (a0 a1 : Nat) (x2 : Int32) (out : Int32 × bk_Val), rc V a0 a1 x2 = some out → Met l yX8_readExpr (bk_ws yX8_readExpr cX8_readExpr 4 (some FieldType.boolean)) (re_X8 d) (bk_Pc G [.ref a0, .ref a1, .int x2] Y V) (bk_Q G (some (.int out.1)) Y out.2) 0 0 (bk_A G)) : ∀ (n : Nat), ∀ (V : bk_Val) (a0 : Nat) (a1 : Nat) (x2 : Int32) (x3 : Int32) (H : Heap) (locs : List Loc) (ls : Array Slot) (out : Int32 × bk_Val), lv_has ls 5 [(0, .ref a0), (1, .ref a1), (2, .int x2), (3, .int x3)] → bk_H G Y V s.heap H locs → q_X8_readSum_13 N Y rc n V a0 a1 x2 x3 = some out → W p l e (rm_X8_readSum d) s m args below meth c H locs 0 0 (MQ below (bk_Q G (some (.int out.1)) Y out.2) args s 0 0 (bk_A G)) (F0 m 13 ls []) := by
  have hx := C.1
  have hb := C.2.1
  intro n
  induction n with
  | zero =>
    intro V a0 a1 x2 x3 H locs ls out hl hH hq
    exact nomatch (show (none : Option (Int32 × bk_Val)) = some out from hq)
  | succ n ih =>
    intro V a0 a1 x2 x3 H locs ls out hl hH hq
    unfold q_X8_readSum_13 at hq
    refine lv_iload_n hx hb dX8_readSum_13 rfl (lv_at hl 3 rfl) ?_
    refine lv_sipush (v := 700) hx hb dX8_readSum_14 (by decide) ?_
    refine lv_icmp_ge (tgt := 95) hx hb dX8_readSum_17 (by decide) (fun hc_31 => ?_) (fun hc_31 => ?_)
    · rw [if_pos hc_31] at hq
      refine lv_iconst (v := 1) hx hb dX8_readSum_95 (by decide) ?_
      cases hq
      exact bk_zret C hH (Or.inr rfl) dX8_readSum_96
    · rw [if_neg hc_31] at hq
      refine lv_aload_n hx hb dX8_readSum_20 rfl (lv_at hl 0 rfl) ?_
      obtain ⟨hs_21, hq⟩ := bk_ck_some hq
      obtain ⟨b_22, hr_23, hq⟩ := bk_bd_some hq
      refine bk_getr C hH fl_RX8_14 hs_21 rfl hr_23 dX8_readSum_21 ?_
      refine lv_bipush (v := 43) hx hb dX8_readSum_24 (by decide) ?_
      obtain ⟨hs_26, hq⟩ := bk_ck_some hq
      obtain ⟨r_25, hr_24, hq⟩ := bk_bd_some hq
      refine bk_callV (rest := []) (As := [.int 43]) (ro := (some (.int r_25))) (Y1 := Y) (V1 := V) C hH hl.1 (c_X9_isSign hr_24) mc_X9_isSign mv_X9_isSign lk_RX8_222 hs_26 rfl rfl ⟨rfl, rfl⟩ ⟨by simp only [bk_rm, rm_X8_readSum, rm_X9_isSign]; omega, by simp only [bk_rm, rm_X8_readSum, rm_X9_isSign]; omega⟩ rfl (Nat.le_of_ble_eq_true rfl) dX8_readSum_26 ⟨Nat.le_refl _, Nat.le_refl _⟩ (fun H locs hH => ?_)
      refine lv_if_ne (tgt := 44) hx hb dX8_readSum_29 (by decide) (fun hc_30 => ?_) (fun hc_30 => ?_)
      · rw [if_neg hc_30] at hq
        exact w_X8_readSum_44 C hrc _ ih _ _ _ _ _ _ _ _ _ (lv_sub hl [0, 1, 2, 3] rfl) hH hq
      · rw [if_pos hc_30] at hq
        refine lv_aload_n hx hb dX8_readSum_32 rfl (lv_at hl 0 rfl) ?_
        refine bk_getr C hH fl_RX8_14 hs_21 rfl hr_23 dX8_readSum_33 ?_
        refine lv_bipush (v := 45) hx hb dX8_readSum_36 (by decide) ?_
        obtain ⟨r_28, hr_27, hq⟩ := bk_bd_some hq
        refine bk_callV (rest := []) (As := [.int 45]) (ro := (some (.int r_28))) (Y1 := Y) (V1 := V) C hH hl.1 (c_X9_isSign hr_27) mc_X9_isSign mv_X9_isSign lk_RX8_222 hs_26 rfl rfl ⟨rfl, rfl⟩ ⟨by simp only [bk_rm, rm_X8_readSum, rm_X9_isSign]; omega, by simp only [bk_rm, rm_X8_readSum, rm_X9_isSign]; omega⟩ rfl (Nat.le_of_ble_eq_true rfl) dX8_readSum_38 ⟨Nat.le_refl _, Nat.le_refl _⟩ (fun H locs hH => ?_)
        refine lv_if_eq (tgt := 95) hx hb dX8_readSum_41 (by decide) (fun hc_29 => ?_) (fun hc_29 => ?_)
        · rw [if_pos hc_29] at hq
          refine lv_iconst (v := 1) hx hb dX8_readSum_95 (by decide) ?_
          cases hq
          exact bk_zret C hH (Or.inr rfl) dX8_readSum_96
        · rw [if_neg hc_29] at hq
          exact w_X8_readSum_44 C hrc _ ih _ _ _ _ _ _ _ _ _ (lv_sub hl [0, 1, 2, 3] rfl) hH hq

set_option maxRecDepth 100000 in
set_option maxHeartbeats 4000000 in
theorem w_X8_readSum (C : bk_C G p s m args meth c cX8_readSum RX8 5 (some FieldType.boolean)) {d : Nat} {rc : bk_Val → Nat → Nat → Int32 → Option (Int32 × bk_Val)} (hrc : ∀ (V : bk_Val) (a0 a1 : Nat) (x2 : Int32) (out : Int32 × bk_Val), rc V a0 a1 x2 = some out → Met l yX8_readExpr (bk_ws yX8_readExpr cX8_readExpr 4 (some FieldType.boolean)) (re_X8 d) (bk_Pc G [.ref a0, .ref a1, .int x2] Y V) (bk_Q G (some (.int out.1)) Y out.2) 0 0 (bk_A G)) : ∀ (V : bk_Val) (a0 : Nat) (a1 : Nat) (x2 : Int32) (H : Heap) (locs : List Loc) (ls : Array Slot) (out : Int32 × bk_Val), lv_has ls 5 [(0, .ref a0), (1, .ref a1), (2, .int x2)] → bk_H G Y V s.heap H locs → q_X8_readSum N Y rc V a0 a1 x2 = some out → W p l e (rm_X8_readSum d) s m args below meth c H locs 0 0 (MQ below (bk_Q G (some (.int out.1)) Y out.2) args s 0 0 (bk_A G)) (F0 m 0 ls []) := by
  have hx := C.1
  have hb := C.2.1
  intro V a0 a1 x2 H locs ls out hl hH hq
  unfold q_X8_readSum at hq
  refine lv_aload_n hx hb dX8_readSum_0 rfl (lv_at hl 0 rfl) ?_
  refine lv_aload_n hx hb dX8_readSum_1 rfl (lv_at hl 1 rfl) ?_
  refine lv_iload_n hx hb dX8_readSum_2 rfl (lv_at hl 2 rfl) ?_
  obtain ⟨hs_35, hq⟩ := bk_ck_some hq
  obtain ⟨r_33, V_34, hr_32, hq⟩ := bk_bd2_some hq
  refine bk_callV (rest := []) (As := [.ref a1, .int x2]) (ro := (some (.int r_33))) (Y1 := Y) (V1 := V_34) C hH hl.1 (c_X8_readProduct hrc hr_32) mc_X8_readProduct mv_X8_readProduct lk_RX8_251 hs_35 rfl rfl ⟨rfl, rfl⟩ ⟨by simp only [bk_rm, rm_X8_readSum, rm_X8_readProduct]; omega, by simp only [bk_rm, rm_X8_readSum, rm_X8_readProduct]; omega⟩ rfl (Nat.le_of_ble_eq_true rfl) dX8_readSum_3 ⟨Nat.le_refl _, Nat.le_refl _⟩ (fun H locs hH => ?_)
  refine lv_if_ne (tgt := 11) hx hb dX8_readSum_6 (by decide) (fun hc_36 => ?_) (fun hc_36 => ?_)
  · rw [if_neg hc_36] at hq
    refine lv_iconst (v := 0) hx hb dX8_readSum_11 (by decide) ?_
    refine lv_istore_n (lv' := [(3, .int 0), (0, .ref a0), (1, .ref a1), (2, .int x2)]) hx hb dX8_readSum_12 rfl hl (by decide) rfl (fun ls hl => ?_)
    exact w_X8_readSum_13 C hrc _ _ _ _ _ _ _ _ _ _ (lv_sub hl [1, 2, 3, 0] rfl) hH hq
  · rw [if_pos hc_36] at hq
    refine lv_iconst (v := 0) hx hb dX8_readSum_9 (by decide) ?_
    cases hq
    exact bk_zret C hH (Or.inl rfl) dX8_readSum_10
set_option maxRecDepth 100000 in
theorem c_X8_readSum {l : Launch} {G : bk_G} {N : Nat} {Y : bk_Lay} {V : bk_Val} {d : Nat} {rc : bk_Val → Nat → Nat → Int32 → Option (Int32 × bk_Val)} (hrc : ∀ (V : bk_Val) (a0 a1 : Nat) (x2 : Int32) (out : Int32 × bk_Val), rc V a0 a1 x2 = some out → Met l yX8_readExpr (bk_ws yX8_readExpr cX8_readExpr 4 (some FieldType.boolean)) (re_X8 d) (bk_Pc G [.ref a0, .ref a1, .int x2] Y V) (bk_Q G (some (.int out.1)) Y out.2) 0 0 (bk_A G)) {a0 : Nat} {a1 : Nat} {x2 : Int32} {out : Int32 × bk_Val} (hq : q_X8_readSum N Y rc V a0 a1 x2 = some out) : Met l yX8_readSum (bk_ws yX8_readSum cX8_readSum 5 (some FieldType.boolean)) (rm_X8_readSum d) (bk_Pc G [.ref a0, .ref a1, .int x2] Y V) (bk_Q G (some (.int out.1)) Y out.2) 0 0 (bk_A G) :=
  bk_met (by decide) (Nat.le_of_ble_eq_true rfl) (fun p e s m args below meth c ls C hnm hH hl => w_X8_readSum C hrc _ _ _ _ _ _ _ _ hl hH hq)

def rm_X8_readTest (d : Nat) : Room := bk_rm (7 * d + 31) 0 0 (168 * d + 664)
set_option maxRecDepth 100000 in
set_option maxHeartbeats 4000000 in
theorem w_X8_readTest_51 (C : bk_C G p s m args meth c cX8_readTest RX8 4 (some FieldType.boolean)) {d : Nat} {rc : bk_Val → Nat → Nat → Int32 → Option (Int32 × bk_Val)} (hrc : ∀ (V : bk_Val) (a0 a1 : Nat) (x2 : Int32) (out : Int32 × bk_Val), rc V a0 a1 x2 = some out → Met l yX8_readExpr (bk_ws yX8_readExpr cX8_readExpr 4 (some FieldType.boolean)) (re_X8 d) (bk_Pc G [.ref a0, .ref a1, .int x2] Y V) (bk_Q G (some (.int out.1)) Y out.2) 0 0 (bk_A G)) : ∀ (V : bk_Val) (a0 : Nat) (a1 : Nat) (x2 : Int32) (x3 : Int32) (H : Heap) (locs : List Loc) (ls : Array Slot) (out : Int32 × bk_Val), lv_has ls 4 [(0, .ref a0), (1, .ref a1), (2, .int x2), (3, .int x3)] → bk_H G Y V s.heap H locs → q_X8_readTest_51 N Y rc V a0 a1 x2 x3 = some out → W p l e (rm_X8_readTest d) s m args below meth c H locs 0 0 (MQ below (bk_Q G (some (.int out.1)) Y out.2) args s 0 0 (bk_A G)) (F0 m 51 ls []) := by
  have hx := C.1
  have hb := C.2.1
  intro V a0 a1 x2 x3 H locs ls out hl hH hq
  unfold q_X8_readTest_51 at hq
  refine lv_aload_n hx hb dX8_readTest_51 rfl (lv_at hl 0 rfl) ?_
  obtain ⟨hs_1, hq⟩ := bk_ck_some hq
  obtain ⟨b_2, hr_3, hq⟩ := bk_bd_some hq
  refine bk_getr C hH fl_RX8_14 hs_1 rfl hr_3 dX8_readTest_52 ?_
  obtain ⟨hs_6, hq⟩ := bk_ck_some hq
  obtain ⟨V_5, hr_4, hq⟩ := bk_bd_some hq
  refine bk_callV (rest := []) (As := []) (ro := none) (Y1 := Y) (V1 := V_5) C hH hl.1 (c_X9_step hr_4) mc_X9_step mv_X9_step lk_RX8_49 hs_6 rfl rfl ⟨rfl, rfl⟩ ⟨by simp only [bk_rm, rm_X8_readTest, rm_X9_step]; omega, by simp only [bk_rm, rm_X8_readTest, rm_X9_step]; omega⟩ rfl (Nat.le_of_ble_eq_true rfl) dX8_readTest_55 ⟨Nat.le_refl _, Nat.le_refl _⟩ (fun H locs hH => ?_)
  refine lv_aload_n hx hb dX8_readTest_58 rfl (lv_at hl 0 rfl) ?_
  refine lv_aload_n hx hb dX8_readTest_59 rfl (lv_at hl 1 rfl) ?_
  refine lv_iload_n hx hb dX8_readTest_60 rfl (lv_at hl 2 rfl) ?_
  obtain ⟨r_8, V_9, hr_7, hq⟩ := bk_bd2_some hq
  refine bk_callV (rest := []) (As := [.ref a1, .int x2]) (ro := (some (.int r_8))) (Y1 := Y) (V1 := V_9) C hH hl.1 (c_X8_readSum hrc hr_7) mc_X8_readSum mv_X8_readSum lk_RX8_248 hs_1 rfl rfl ⟨rfl, rfl⟩ ⟨by simp only [bk_rm, rm_X8_readTest, rm_X8_readSum]; omega, by simp only [bk_rm, rm_X8_readTest, rm_X8_readSum]; omega⟩ rfl (Nat.le_of_ble_eq_true rfl) dX8_readTest_61 ⟨Nat.le_refl _, Nat.le_refl _⟩ (fun H locs hH => ?_)
  refine lv_if_ne (tgt := 69) hx hb dX8_readTest_64 (by decide) (fun hc_13 => ?_) (fun hc_13 => ?_)
  · rw [if_neg hc_13] at hq
    refine lv_aload_n hx hb dX8_readTest_69 rfl (lv_at hl 1 rfl) ?_
    refine lv_iload_n hx hb dX8_readTest_70 rfl (lv_at hl 3 rfl) ?_
    obtain ⟨hs_12, hq⟩ := bk_ck_some hq
    obtain ⟨V_11, hr_10, hq⟩ := bk_bd_some hq
    refine bk_callV (rest := []) (As := [.int x3]) (ro := none) (Y1 := Y) (V1 := V_11) C hH hl.1 (c_X4_put hr_10) mc_X4_put mv_X4_put lk_RX8_235 hs_12 rfl rfl ⟨rfl, rfl⟩ ⟨by simp only [bk_rm, rm_X8_readTest, rm_X4_put]; omega, by simp only [bk_rm, rm_X8_readTest, rm_X4_put]; omega⟩ rfl (Nat.le_of_ble_eq_true rfl) dX8_readTest_71 ⟨Nat.le_refl _, Nat.le_refl _⟩ (fun H locs hH => ?_)
    refine lv_iconst (v := 1) hx hb dX8_readTest_74 (by decide) ?_
    cases hq
    exact bk_zret C hH (Or.inr rfl) dX8_readTest_75
  · rw [if_pos hc_13] at hq
    refine lv_iconst (v := 0) hx hb dX8_readTest_67 (by decide) ?_
    cases hq
    exact bk_zret C hH (Or.inl rfl) dX8_readTest_68

set_option maxRecDepth 100000 in
set_option maxHeartbeats 4000000 in
theorem w_X8_readTest_30 (C : bk_C G p s m args meth c cX8_readTest RX8 4 (some FieldType.boolean)) {d : Nat} {rc : bk_Val → Nat → Nat → Int32 → Option (Int32 × bk_Val)} (hrc : ∀ (V : bk_Val) (a0 a1 : Nat) (x2 : Int32) (out : Int32 × bk_Val), rc V a0 a1 x2 = some out → Met l yX8_readExpr (bk_ws yX8_readExpr cX8_readExpr 4 (some FieldType.boolean)) (re_X8 d) (bk_Pc G [.ref a0, .ref a1, .int x2] Y V) (bk_Q G (some (.int out.1)) Y out.2) 0 0 (bk_A G)) : ∀ (V : bk_Val) (a0 : Nat) (a1 : Nat) (x2 : Int32) (sx0 : Int32) (H : Heap) (locs : List Loc) (ls : Array Slot) (out : Int32 × bk_Val), lv_has ls 4 [(0, .ref a0), (1, .ref a1), (2, .int x2)] → bk_H G Y V s.heap H locs → q_X8_readTest_30 N Y rc V a0 a1 x2 sx0 = some out → W p l e (rm_X8_readTest d) s m args below meth c H locs 0 0 (MQ below (bk_Q G (some (.int out.1)) Y out.2) args s 0 0 (bk_A G)) (F0 m 30 ls [.int sx0]) := by
  have hx := C.1
  have hb := C.2.1
  intro V a0 a1 x2 sx0 H locs ls out hl hH hq
  unfold q_X8_readTest_30 at hq
  refine lv_istore_n (lv' := [(3, .int sx0), (0, .ref a0), (1, .ref a1), (2, .int x2)]) hx hb dX8_readTest_30 rfl hl (by decide) rfl (fun ls hl => ?_)
  refine lv_iload_n hx hb dX8_readTest_31 rfl (lv_at hl 0 rfl) ?_
  refine lv_bipush (v := (-5)) hx hb dX8_readTest_32 (by decide) ?_
  refine lv_icmp_ne (tgt := 51) hx hb dX8_readTest_34 (by decide) (fun hc_21 => ?_) (fun hc_21 => ?_)
  · rw [if_neg hc_21] at hq
    exact w_X8_readTest_51 C hrc _ _ _ _ _ _ _ _ _ (lv_sub hl [1, 2, 3, 0] rfl) hH hq
  · rw [if_pos hc_21] at hq
    refine lv_aload_n hx hb dX8_readTest_37 rfl (lv_at hl 1 rfl) ?_
    obtain ⟨hs_14, hq⟩ := bk_ck_some hq
    obtain ⟨b_15, hr_16, hq⟩ := bk_bd_some hq
    refine bk_getr C hH fl_RX8_14 hs_14 rfl hr_16 dX8_readTest_38 ?_
    refine lv_bipush (v := 61) hx hb dX8_readTest_41 (by decide) ?_
    obtain ⟨hs_19, hq⟩ := bk_ck_some hq
    obtain ⟨r_18, hr_17, hq⟩ := bk_bd_some hq
    refine bk_callV (rest := []) (As := [.int 61]) (ro := (some (.int r_18))) (Y1 := Y) (V1 := V) C hH hl.1 (c_X9_isSign hr_17) mc_X9_isSign mv_X9_isSign lk_RX8_222 hs_19 rfl rfl ⟨rfl, rfl⟩ ⟨by simp only [bk_rm, rm_X8_readTest, rm_X9_isSign]; omega, by simp only [bk_rm, rm_X8_readTest, rm_X9_isSign]; omega⟩ rfl (Nat.le_of_ble_eq_true rfl) dX8_readTest_43 ⟨Nat.le_refl _, Nat.le_refl _⟩ (fun H locs hH => ?_)
    refine lv_if_ne (tgt := 51) hx hb dX8_readTest_46 (by decide) (fun hc_20 => ?_) (fun hc_20 => ?_)
    · rw [if_neg hc_20] at hq
      exact w_X8_readTest_51 C hrc _ _ _ _ _ _ _ _ _ (lv_sub hl [1, 2, 3, 0] rfl) hH hq
    · rw [if_pos hc_20] at hq
      refine lv_iconst (v := 1) hx hb dX8_readTest_49 (by decide) ?_
      cases hq
      exact bk_zret C hH (Or.inr rfl) dX8_readTest_50

set_option maxRecDepth 100000 in
set_option maxHeartbeats 4000000 in
theorem w_X8_readTest (C : bk_C G p s m args meth c cX8_readTest RX8 4 (some FieldType.boolean)) {d : Nat} {rc : bk_Val → Nat → Nat → Int32 → Option (Int32 × bk_Val)} (hrc : ∀ (V : bk_Val) (a0 a1 : Nat) (x2 : Int32) (out : Int32 × bk_Val), rc V a0 a1 x2 = some out → Met l yX8_readExpr (bk_ws yX8_readExpr cX8_readExpr 4 (some FieldType.boolean)) (re_X8 d) (bk_Pc G [.ref a0, .ref a1, .int x2] Y V) (bk_Q G (some (.int out.1)) Y out.2) 0 0 (bk_A G)) : ∀ (V : bk_Val) (a0 : Nat) (a1 : Nat) (x2 : Int32) (H : Heap) (locs : List Loc) (ls : Array Slot) (out : Int32 × bk_Val), lv_has ls 4 [(0, .ref a0), (1, .ref a1), (2, .int x2)] → bk_H G Y V s.heap H locs → q_X8_readTest N Y rc V a0 a1 x2 = some out → W p l e (rm_X8_readTest d) s m args below meth c H locs 0 0 (MQ below (bk_Q G (some (.int out.1)) Y out.2) args s 0 0 (bk_A G)) (F0 m 0 ls []) := by
  have hx := C.1
  have hb := C.2.1
  intro V a0 a1 x2 H locs ls out hl hH hq
  unfold q_X8_readTest at hq
  refine lv_aload_n hx hb dX8_readTest_0 rfl (lv_at hl 0 rfl) ?_
  refine lv_aload_n hx hb dX8_readTest_1 rfl (lv_at hl 1 rfl) ?_
  refine lv_iload_n hx hb dX8_readTest_2 rfl (lv_at hl 2 rfl) ?_
  obtain ⟨hs_25, hq⟩ := bk_ck_some hq
  obtain ⟨r_23, V_24, hr_22, hq⟩ := bk_bd2_some hq
  refine bk_callV (rest := []) (As := [.ref a1, .int x2]) (ro := (some (.int r_23))) (Y1 := Y) (V1 := V_24) C hH hl.1 (c_X8_readSum hrc hr_22) mc_X8_readSum mv_X8_readSum lk_RX8_248 hs_25 rfl rfl ⟨rfl, rfl⟩ ⟨by simp only [bk_rm, rm_X8_readTest, rm_X8_readSum]; omega, by simp only [bk_rm, rm_X8_readTest, rm_X8_readSum]; omega⟩ rfl (Nat.le_of_ble_eq_true rfl) dX8_readTest_3 ⟨Nat.le_refl _, Nat.le_refl _⟩ (fun H locs hH => ?_)
  refine lv_if_ne (tgt := 11) hx hb dX8_readTest_6 (by decide) (fun hc_32 => ?_) (fun hc_32 => ?_)
  · rw [if_neg hc_32] at hq
    refine lv_aload_n hx hb dX8_readTest_11 rfl (lv_at hl 0 rfl) ?_
    obtain ⟨b_26, hr_27, hq⟩ := bk_bd_some hq
    refine bk_getr C hH fl_RX8_14 hs_25 rfl hr_27 dX8_readTest_12 ?_
    refine lv_bipush (v := 60) hx hb dX8_readTest_15 (by decide) ?_
    obtain ⟨hs_30, hq⟩ := bk_ck_some hq
    obtain ⟨r_29, hr_28, hq⟩ := bk_bd_some hq
    refine bk_callV (rest := []) (As := [.int 60]) (ro := (some (.int r_29))) (Y1 := Y) (V1 := V_24) C hH hl.1 (c_X9_isSign hr_28) mc_X9_isSign mv_X9_isSign lk_RX8_222 hs_30 rfl rfl ⟨rfl, rfl⟩ ⟨by simp only [bk_rm, rm_X8_readTest, rm_X9_isSign]; omega, by simp only [bk_rm, rm_X8_readTest, rm_X9_isSign]; omega⟩ rfl (Nat.le_of_ble_eq_true rfl) dX8_readTest_17 ⟨Nat.le_refl _, Nat.le_refl _⟩ (fun H locs hH => ?_)
    refine lv_if_eq (tgt := 28) hx hb dX8_readTest_20 (by decide) (fun hc_31 => ?_) (fun hc_31 => ?_)
    · rw [if_pos hc_31] at hq
      refine lv_bipush (v := (-5)) hx hb dX8_readTest_28 (by decide) ?_
      exact w_X8_readTest_30 C hrc _ _ _ _ _ _ _ _ _ (lv_sub hl [0, 1, 2] rfl) hH hq
    · rw [if_neg hc_31] at hq
      refine lv_bipush (v := (-4)) hx hb dX8_readTest_23 (by decide) ?_
      refine lv_goto (tgt := 30) hx hb dX8_readTest_25 (by decide) ?_
      exact w_X8_readTest_30 C hrc _ _ _ _ _ _ _ _ _ (lv_sub hl [0, 1, 2] rfl) hH hq
  · rw [if_pos hc_32] at hq
    refine lv_iconst (v := 0) hx hb dX8_readTest_9 (by decide) ?_
    cases hq
    exact bk_zret C hH (Or.inl rfl) dX8_readTest_10
set_option maxRecDepth 100000 in
theorem c_X8_readTest {l : Launch} {G : bk_G} {N : Nat} {Y : bk_Lay} {V : bk_Val} {d : Nat} {rc : bk_Val → Nat → Nat → Int32 → Option (Int32 × bk_Val)} (hrc : ∀ (V : bk_Val) (a0 a1 : Nat) (x2 : Int32) (out : Int32 × bk_Val), rc V a0 a1 x2 = some out → Met l yX8_readExpr (bk_ws yX8_readExpr cX8_readExpr 4 (some FieldType.boolean)) (re_X8 d) (bk_Pc G [.ref a0, .ref a1, .int x2] Y V) (bk_Q G (some (.int out.1)) Y out.2) 0 0 (bk_A G)) {a0 : Nat} {a1 : Nat} {x2 : Int32} {out : Int32 × bk_Val} (hq : q_X8_readTest N Y rc V a0 a1 x2 = some out) : Met l yX8_readTest (bk_ws yX8_readTest cX8_readTest 4 (some FieldType.boolean)) (rm_X8_readTest d) (bk_Pc G [.ref a0, .ref a1, .int x2] Y V) (bk_Q G (some (.int out.1)) Y out.2) 0 0 (bk_A G) :=
  bk_met (by decide) (Nat.le_of_ble_eq_true rfl) (fun p e s m args below meth c ls C hnm hH hl => w_X8_readTest C hrc _ _ _ _ _ _ _ _ hl hH hq)

def rm_X8_readNot (d : Nat) : Room := bk_rm (7 * d + 32) 0 0 (168 * d + 688)
set_option maxRecDepth 100000 in
set_option maxHeartbeats 4000000 in
theorem w_X8_readNot_65 (C : bk_C G p s m args meth c cX8_readNot RX8 5 (some FieldType.boolean)) {d : Nat} {rc : bk_Val → Nat → Nat → Int32 → Option (Int32 × bk_Val)} (hrc : ∀ (V : bk_Val) (a0 a1 : Nat) (x2 : Int32) (out : Int32 × bk_Val), rc V a0 a1 x2 = some out → Met l yX8_readExpr (bk_ws yX8_readExpr cX8_readExpr 4 (some FieldType.boolean)) (re_X8 d) (bk_Pc G [.ref a0, .ref a1, .int x2] Y V) (bk_Q G (some (.int out.1)) Y out.2) 0 0 (bk_A G)) : ∀ (n : Nat), ∀ (V : bk_Val) (a1 : Nat) (x3 : Int32) (x4 : Int32) (H : Heap) (locs : List Loc) (ls : Array Slot) (out : Int32 × bk_Val), lv_has ls 5 [(1, .ref a1), (3, .int x3), (4, .int x4)] → bk_H G Y V s.heap H locs → q_X8_readNot_65 N Y rc n V a1 x3 x4 = some out → W p l e (rm_X8_readNot d) s m args below meth c H locs 0 0 (MQ below (bk_Q G (some (.int out.1)) Y out.2) args s 0 0 (bk_A G)) (F0 m 65 ls []) := by
  have hx := C.1
  have hb := C.2.1
  intro n
  induction n with
  | zero =>
    intro V a1 x3 x4 H locs ls out hl hH hq
    exact nomatch (show (none : Option (Int32 × bk_Val)) = some out from hq)
  | succ n ih =>
    intro V a1 x3 x4 H locs ls out hl hH hq
    unfold q_X8_readNot_65 at hq
    refine lv_iload hx hb dX8_readNot_65 (lv_at hl 2 rfl) ?_
    refine lv_iload_n hx hb dX8_readNot_67 rfl (lv_at hl 1 rfl) ?_
    refine lv_icmp_ge (tgt := 83) hx hb dX8_readNot_68 (by decide) (fun hc_4 => ?_) (fun hc_4 => ?_)
    · rw [if_pos hc_4] at hq
      refine lv_iconst (v := 1) hx hb dX8_readNot_83 (by decide) ?_
      cases hq
      exact bk_zret C hH (Or.inr rfl) dX8_readNot_84
    · rw [if_neg hc_4] at hq
      refine lv_aload_n hx hb dX8_readNot_71 rfl (lv_at hl 0 rfl) ?_
      refine lv_bipush (v := (-3)) hx hb dX8_readNot_72 (by decide) ?_
      obtain ⟨hs_3, hq⟩ := bk_ck_some hq
      obtain ⟨V_2, hr_1, hq⟩ := bk_bd_some hq
      refine bk_callV (rest := []) (As := [.int (-3)]) (ro := none) (Y1 := Y) (V1 := V_2) C hH hl.1 (c_X4_put hr_1) mc_X4_put mv_X4_put lk_RX8_235 hs_3 rfl rfl ⟨rfl, rfl⟩ ⟨by simp only [bk_rm, rm_X8_readNot, rm_X4_put]; omega, by simp only [bk_rm, rm_X8_readNot, rm_X4_put]; omega⟩ rfl (Nat.le_of_ble_eq_true rfl) dX8_readNot_74 ⟨Nat.le_refl _, Nat.le_refl _⟩ (fun H locs hH => ?_)
      refine lv_iinc (v := (x4 + 1)) (lv' := [(4, .int (x4 + 1)), (1, .ref a1), (3, .int x3)]) hx hb dX8_readNot_77 hl (k := 2) rfl rfl (by decide) rfl (fun ls hl => ?_)
      refine lv_goto (tgt := 65) hx hb dX8_readNot_80 (by decide) ?_
      exact ih _ _ _ _ _ _ _ _ (lv_sub hl [1, 2, 0] rfl) hH hq

set_option maxRecDepth 100000 in
set_option maxHeartbeats 4000000 in
theorem w_X8_readNot_33 (C : bk_C G p s m args meth c cX8_readNot RX8 5 (some FieldType.boolean)) {d : Nat} {rc : bk_Val → Nat → Nat → Int32 → Option (Int32 × bk_Val)} (hrc : ∀ (V : bk_Val) (a0 a1 : Nat) (x2 : Int32) (out : Int32 × bk_Val), rc V a0 a1 x2 = some out → Met l yX8_readExpr (bk_ws yX8_readExpr cX8_readExpr 4 (some FieldType.boolean)) (re_X8 d) (bk_Pc G [.ref a0, .ref a1, .int x2] Y V) (bk_Q G (some (.int out.1)) Y out.2) 0 0 (bk_A G)) : ∀ (V : bk_Val) (a0 : Nat) (a1 : Nat) (x2 : Int32) (x3 : Int32) (H : Heap) (locs : List Loc) (ls : Array Slot) (out : Int32 × bk_Val), lv_has ls 5 [(0, .ref a0), (1, .ref a1), (2, .int x2), (3, .int x3)] → bk_H G Y V s.heap H locs → q_X8_readNot_33 N Y rc V a0 a1 x2 x3 = some out → W p l e (rm_X8_readNot d) s m args below meth c H locs 0 0 (MQ below (bk_Q G (some (.int out.1)) Y out.2) args s 0 0 (bk_A G)) (F0 m 33 ls []) := by
  have hx := C.1
  have hb := C.2.1
  intro V a0 a1 x2 x3 H locs ls out hl hH hq
  unfold q_X8_readNot_33 at hq
  refine lv_aload_n hx hb dX8_readNot_33 rfl (lv_at hl 0 rfl) ?_
  obtain ⟨hs_5, hq⟩ := bk_ck_some hq
  obtain ⟨b_6, hr_7, hq⟩ := bk_bd_some hq
  refine bk_getr C hH fl_RX8_14 hs_5 rfl hr_7 dX8_readNot_34 ?_
  refine bk_ldcS C (i := 9) (tx := "not") rfl dX8_readNot_37 ?_
  obtain ⟨hs_10, hq⟩ := bk_ck_some hq
  obtain ⟨r_9, hr_8, hq⟩ := bk_bd_some hq
  refine bk_callV (rest := []) (As := [.ref (G.2.2.2.1 9)]) (ro := (some (.int r_9))) (Y1 := Y) (V1 := V) C hH hl.1 (c_X9_isWord hr_8) mc_X9_isWord mv_X9_isWord lk_RX8_45 hs_10 rfl rfl ⟨rfl, rfl⟩ ⟨by simp only [bk_rm, rm_X8_readNot, rm_X9_isWord]; omega, by simp only [bk_rm, rm_X8_readNot, rm_X9_isWord]; omega⟩ rfl (Nat.le_of_ble_eq_true rfl) dX8_readNot_39 ⟨Nat.le_refl _, Nat.le_refl _⟩ (fun H locs hH => ?_)
  refine lv_if_eq (tgt := 51) hx hb dX8_readNot_42 (by decide) (fun hc_18 => ?_) (fun hc_18 => ?_)
  · rw [if_pos hc_18] at hq
    refine lv_aload_n hx hb dX8_readNot_51 rfl (lv_at hl 0 rfl) ?_
    refine lv_aload_n hx hb dX8_readNot_52 rfl (lv_at hl 1 rfl) ?_
    refine lv_iload_n hx hb dX8_readNot_53 rfl (lv_at hl 2 rfl) ?_
    obtain ⟨r_12, V_13, hr_11, hq⟩ := bk_bd2_some hq
    refine bk_callV (rest := []) (As := [.ref a1, .int x2]) (ro := (some (.int r_12))) (Y1 := Y) (V1 := V_13) C hH hl.1 (c_X8_readTest hrc hr_11) mc_X8_readTest mv_X8_readTest lk_RX8_245 hs_5 rfl rfl ⟨rfl, rfl⟩ ⟨by simp only [bk_rm, rm_X8_readNot, rm_X8_readTest]; omega, by simp only [bk_rm, rm_X8_readNot, rm_X8_readTest]; omega⟩ rfl (Nat.le_of_ble_eq_true rfl) dX8_readNot_54 ⟨Nat.le_refl _, Nat.le_refl _⟩ (fun H locs hH => ?_)
    refine lv_if_ne (tgt := 62) hx hb dX8_readNot_57 (by decide) (fun hc_14 => ?_) (fun hc_14 => ?_)
    · rw [if_neg hc_14] at hq
      refine lv_iconst (v := 0) hx hb dX8_readNot_62 (by decide) ?_
      refine lv_istore (lv' := [(4, .int 0), (0, .ref a0), (1, .ref a1), (2, .int x2), (3, .int x3)]) hx hb dX8_readNot_63 hl (by decide) rfl (fun ls hl => ?_)
      exact w_X8_readNot_65 C hrc _ _ _ _ _ _ _ _ _ (lv_sub hl [2, 4, 0] rfl) hH hq
    · rw [if_pos hc_14] at hq
      refine lv_iconst (v := 0) hx hb dX8_readNot_60 (by decide) ?_
      cases hq
      exact bk_zret C hH (Or.inl rfl) dX8_readNot_61
  · rw [if_neg hc_18] at hq
    refine lv_aload_n hx hb dX8_readNot_45 rfl (lv_at hl 0 rfl) ?_
    refine lv_iconst (v := 2) hx hb dX8_readNot_46 (by decide) ?_
    obtain ⟨r_16, V_17, hr_15, hq⟩ := bk_bd2_some hq
    refine bk_callV (rest := []) (As := [.int 2]) (ro := (some (.int r_16))) (Y1 := Y) (V1 := V_17) C hH hl.1 (c_X8_refuse hr_15) mc_X8_refuse mv_X8_refuse lk_RX8_71 hs_5 rfl rfl ⟨rfl, rfl⟩ ⟨by simp only [bk_rm, rm_X8_readNot, rm_X8_refuse]; omega, by simp only [bk_rm, rm_X8_readNot, rm_X8_refuse]; omega⟩ rfl (Nat.le_of_ble_eq_true rfl) dX8_readNot_47 ⟨Nat.le_refl _, Nat.le_refl _⟩ (fun H locs hH => ?_)
    obtain ⟨hz9, hq⟩ := bk_ck_some hq
    cases hq
    exact bk_zret C hH hz9 dX8_readNot_50

set_option maxRecDepth 100000 in
set_option maxHeartbeats 4000000 in
theorem w_X8_readNot_2 (C : bk_C G p s m args meth c cX8_readNot RX8 5 (some FieldType.boolean)) {d : Nat} {rc : bk_Val → Nat → Nat → Int32 → Option (Int32 × bk_Val)} (hrc : ∀ (V : bk_Val) (a0 a1 : Nat) (x2 : Int32) (out : Int32 × bk_Val), rc V a0 a1 x2 = some out → Met l yX8_readExpr (bk_ws yX8_readExpr cX8_readExpr 4 (some FieldType.boolean)) (re_X8 d) (bk_Pc G [.ref a0, .ref a1, .int x2] Y V) (bk_Q G (some (.int out.1)) Y out.2) 0 0 (bk_A G)) : ∀ (n : Nat), ∀ (V : bk_Val) (a0 : Nat) (a1 : Nat) (x2 : Int32) (x3 : Int32) (H : Heap) (locs : List Loc) (ls : Array Slot) (out : Int32 × bk_Val), lv_has ls 5 [(0, .ref a0), (1, .ref a1), (2, .int x2), (3, .int x3)] → bk_H G Y V s.heap H locs → q_X8_readNot_2 N Y rc n V a0 a1 x2 x3 = some out → W p l e (rm_X8_readNot d) s m args below meth c H locs 0 0 (MQ below (bk_Q G (some (.int out.1)) Y out.2) args s 0 0 (bk_A G)) (F0 m 2 ls []) := by
  have hx := C.1
  have hb := C.2.1
  intro n
  induction n with
  | zero =>
    intro V a0 a1 x2 x3 H locs ls out hl hH hq
    exact nomatch (show (none : Option (Int32 × bk_Val)) = some out from hq)
  | succ n ih =>
    intro V a0 a1 x2 x3 H locs ls out hl hH hq
    unfold q_X8_readNot_2 at hq
    refine lv_iload_n hx hb dX8_readNot_2 rfl (lv_at hl 3 rfl) ?_
    refine lv_bipush (v := 6) hx hb dX8_readNot_3 (by decide) ?_
    refine lv_icmp_ge (tgt := 33) hx hb dX8_readNot_5 (by decide) (fun hc_28 => ?_) (fun hc_28 => ?_)
    · rw [if_pos hc_28] at hq
      exact w_X8_readNot_33 C hrc _ _ _ _ _ _ _ _ _ (lv_sub hl [0, 1, 2, 3] rfl) hH hq
    · rw [if_neg hc_28] at hq
      refine lv_aload_n hx hb dX8_readNot_8 rfl (lv_at hl 0 rfl) ?_
      obtain ⟨hs_19, hq⟩ := bk_ck_some hq
      obtain ⟨b_20, hr_21, hq⟩ := bk_bd_some hq
      refine bk_getr C hH fl_RX8_14 hs_19 rfl hr_21 dX8_readNot_9 ?_
      refine bk_ldcS C (i := 9) (tx := "not") rfl dX8_readNot_12 ?_
      obtain ⟨hs_24, hq⟩ := bk_ck_some hq
      obtain ⟨r_23, hr_22, hq⟩ := bk_bd_some hq
      refine bk_callV (rest := []) (As := [.ref (G.2.2.2.1 9)]) (ro := (some (.int r_23))) (Y1 := Y) (V1 := V) C hH hl.1 (c_X9_isWord hr_22) mc_X9_isWord mv_X9_isWord lk_RX8_45 hs_24 rfl rfl ⟨rfl, rfl⟩ ⟨by simp only [bk_rm, rm_X8_readNot, rm_X9_isWord]; omega, by simp only [bk_rm, rm_X8_readNot, rm_X9_isWord]; omega⟩ rfl (Nat.le_of_ble_eq_true rfl) dX8_readNot_14 ⟨Nat.le_refl _, Nat.le_refl _⟩ (fun H locs hH => ?_)
      refine lv_if_eq (tgt := 33) hx hb dX8_readNot_17 (by decide) (fun hc_27 => ?_) (fun hc_27 => ?_)
      · rw [if_pos hc_27] at hq
        exact w_X8_readNot_33 C hrc _ _ _ _ _ _ _ _ _ (lv_sub hl [0, 1, 2, 3] rfl) hH hq
      · rw [if_neg hc_27] at hq
        refine lv_iinc (v := (x3 + 1)) (lv' := [(3, .int (x3 + 1)), (0, .ref a0), (1, .ref a1), (2, .int x2)]) hx hb dX8_readNot_20 hl (k := 3) rfl rfl (by decide) rfl (fun ls hl => ?_)
        refine lv_aload_n hx hb dX8_readNot_23 rfl (lv_at hl 1 rfl) ?_
        refine bk_getr C hH fl_RX8_14 hs_19 rfl hr_21 dX8_readNot_24 ?_
        obtain ⟨V_26, hr_25, hq⟩ := bk_bd_some hq
        refine bk_callV (rest := []) (As := []) (ro := none) (Y1 := Y) (V1 := V_26) C hH hl.1 (c_X9_step hr_25) mc_X9_step mv_X9_step lk_RX8_49 hs_24 rfl rfl ⟨rfl, rfl⟩ ⟨by simp only [bk_rm, rm_X8_readNot, rm_X9_step]; omega, by simp only [bk_rm, rm_X8_readNot, rm_X9_step]; omega⟩ rfl (Nat.le_of_ble_eq_true rfl) dX8_readNot_27 ⟨Nat.le_refl _, Nat.le_refl _⟩ (fun H locs hH => ?_)
        refine lv_goto (tgt := 2) hx hb dX8_readNot_30 (by decide) ?_
        exact ih _ _ _ _ _ _ _ _ _ (lv_sub hl [1, 2, 3, 0] rfl) hH hq

set_option maxRecDepth 100000 in
set_option maxHeartbeats 4000000 in
theorem w_X8_readNot (C : bk_C G p s m args meth c cX8_readNot RX8 5 (some FieldType.boolean)) {d : Nat} {rc : bk_Val → Nat → Nat → Int32 → Option (Int32 × bk_Val)} (hrc : ∀ (V : bk_Val) (a0 a1 : Nat) (x2 : Int32) (out : Int32 × bk_Val), rc V a0 a1 x2 = some out → Met l yX8_readExpr (bk_ws yX8_readExpr cX8_readExpr 4 (some FieldType.boolean)) (re_X8 d) (bk_Pc G [.ref a0, .ref a1, .int x2] Y V) (bk_Q G (some (.int out.1)) Y out.2) 0 0 (bk_A G)) : ∀ (V : bk_Val) (a0 : Nat) (a1 : Nat) (x2 : Int32) (H : Heap) (locs : List Loc) (ls : Array Slot) (out : Int32 × bk_Val), lv_has ls 5 [(0, .ref a0), (1, .ref a1), (2, .int x2)] → bk_H G Y V s.heap H locs → q_X8_readNot N Y rc V a0 a1 x2 = some out → W p l e (rm_X8_readNot d) s m args below meth c H locs 0 0 (MQ below (bk_Q G (some (.int out.1)) Y out.2) args s 0 0 (bk_A G)) (F0 m 0 ls []) := by
  have hx := C.1
  have hb := C.2.1
  intro V a0 a1 x2 H locs ls out hl hH hq
  unfold q_X8_readNot at hq
  refine lv_iconst (v := 0) hx hb dX8_readNot_0 (by decide) ?_
  refine lv_istore_n (lv' := [(3, .int 0), (0, .ref a0), (1, .ref a1), (2, .int x2)]) hx hb dX8_readNot_1 rfl hl (by decide) rfl (fun ls hl => ?_)
  exact w_X8_readNot_2 C hrc _ _ _ _ _ _ _ _ _ _ (lv_sub hl [1, 2, 3, 0] rfl) hH hq
set_option maxRecDepth 100000 in
theorem c_X8_readNot {l : Launch} {G : bk_G} {N : Nat} {Y : bk_Lay} {V : bk_Val} {d : Nat} {rc : bk_Val → Nat → Nat → Int32 → Option (Int32 × bk_Val)} (hrc : ∀ (V : bk_Val) (a0 a1 : Nat) (x2 : Int32) (out : Int32 × bk_Val), rc V a0 a1 x2 = some out → Met l yX8_readExpr (bk_ws yX8_readExpr cX8_readExpr 4 (some FieldType.boolean)) (re_X8 d) (bk_Pc G [.ref a0, .ref a1, .int x2] Y V) (bk_Q G (some (.int out.1)) Y out.2) 0 0 (bk_A G)) {a0 : Nat} {a1 : Nat} {x2 : Int32} {out : Int32 × bk_Val} (hq : q_X8_readNot N Y rc V a0 a1 x2 = some out) : Met l yX8_readNot (bk_ws yX8_readNot cX8_readNot 5 (some FieldType.boolean)) (rm_X8_readNot d) (bk_Pc G [.ref a0, .ref a1, .int x2] Y V) (bk_Q G (some (.int out.1)) Y out.2) 0 0 (bk_A G) :=
  bk_met (by decide) (Nat.le_of_ble_eq_true rfl) (fun p e s m args below meth c ls C hnm hH hl => w_X8_readNot C hrc _ _ _ _ _ _ _ _ hl hH hq)

def rm_X8_settingNamed : Room := bk_rm 6 0 0 172
set_option maxRecDepth 100000 in
set_option maxHeartbeats 4000000 in
theorem w_X8_settingNamed (C : bk_C G p s m args meth c cX8_settingNamed RX8 1 (some FieldType.int)) : ∀ (V : bk_Val) (a0 : Nat) (H : Heap) (locs : List Loc) (ls : Array Slot) (out : Int32), lv_has ls 1 [(0, .ref a0)] → bk_H G Y V s.heap H locs → q_X8_settingNamed N Y V a0 = some out → W p l e rm_X8_settingNamed s m args below meth c H locs 0 0 (MQ below (bk_Q G (some (.int out)) Y V) args s 0 0 (bk_A G)) (F0 m 0 ls []) := by
  have hx := C.1
  have hb := C.2.1
  intro V a0 H locs ls out hl hH hq
  unfold q_X8_settingNamed at hq
  refine lv_aload_n hx hb dX8_settingNamed_0 rfl (lv_at hl 0 rfl) ?_
  obtain ⟨hs_1, hq⟩ := bk_ck_some hq
  obtain ⟨b_2, hr_3, hq⟩ := bk_bd_some hq
  refine bk_getr C hH fl_RX8_14 hs_1 rfl hr_3 dX8_settingNamed_1 ?_
  refine bk_ldcS C (i := 2) (tx := "hand") rfl dX8_settingNamed_4 ?_
  obtain ⟨hs_6, hq⟩ := bk_ck_some hq
  obtain ⟨r_5, hr_4, hq⟩ := bk_bd_some hq
  refine bk_callV (rest := []) (As := [.ref (G.2.2.2.1 2)]) (ro := (some (.int r_5))) (Y1 := Y) (V1 := V) C hH hl.1 (c_X9_isWord hr_4) mc_X9_isWord mv_X9_isWord lk_RX8_45 hs_6 rfl rfl ⟨rfl, rfl⟩ ⟨by decide, by decide⟩ rfl (Nat.le_of_ble_eq_true rfl) dX8_settingNamed_6 ⟨by decide, by decide⟩ (fun H locs hH => ?_)
  refine lv_if_eq (tgt := 14) hx hb dX8_settingNamed_9 (by decide) (fun hc_22 => ?_) (fun hc_22 => ?_)
  · rw [if_pos hc_22] at hq
    refine lv_aload_n hx hb dX8_settingNamed_14 rfl (lv_at hl 0 rfl) ?_
    refine bk_getr C hH fl_RX8_14 hs_1 rfl hr_3 dX8_settingNamed_15 ?_
    refine bk_ldcS C (i := 3) (tx := "miss") rfl dX8_settingNamed_18 ?_
    obtain ⟨r_8, hr_7, hq⟩ := bk_bd_some hq
    refine bk_callV (rest := []) (As := [.ref (G.2.2.2.1 3)]) (ro := (some (.int r_8))) (Y1 := Y) (V1 := V) C hH hl.1 (c_X9_isWord hr_7) mc_X9_isWord mv_X9_isWord lk_RX8_45 hs_6 rfl rfl ⟨rfl, rfl⟩ ⟨by decide, by decide⟩ rfl (Nat.le_of_ble_eq_true rfl) dX8_settingNamed_20 ⟨by decide, by decide⟩ (fun H locs hH => ?_)
    refine lv_if_eq (tgt := 28) hx hb dX8_settingNamed_23 (by decide) (fun hc_21 => ?_) (fun hc_21 => ?_)
    · rw [if_pos hc_21] at hq
      refine lv_aload_n hx hb dX8_settingNamed_28 rfl (lv_at hl 0 rfl) ?_
      refine bk_getr C hH fl_RX8_14 hs_1 rfl hr_3 dX8_settingNamed_29 ?_
      refine bk_ldcS C (i := 4) (tx := "noise") rfl dX8_settingNamed_32 ?_
      obtain ⟨r_10, hr_9, hq⟩ := bk_bd_some hq
      refine bk_callV (rest := []) (As := [.ref (G.2.2.2.1 4)]) (ro := (some (.int r_10))) (Y1 := Y) (V1 := V) C hH hl.1 (c_X9_isWord hr_9) mc_X9_isWord mv_X9_isWord lk_RX8_45 hs_6 rfl rfl ⟨rfl, rfl⟩ ⟨by decide, by decide⟩ rfl (Nat.le_of_ble_eq_true rfl) dX8_settingNamed_34 ⟨by decide, by decide⟩ (fun H locs hH => ?_)
      refine lv_if_eq (tgt := 42) hx hb dX8_settingNamed_37 (by decide) (fun hc_20 => ?_) (fun hc_20 => ?_)
      · rw [if_pos hc_20] at hq
        refine lv_aload_n hx hb dX8_settingNamed_42 rfl (lv_at hl 0 rfl) ?_
        refine bk_getr C hH fl_RX8_14 hs_1 rfl hr_3 dX8_settingNamed_43 ?_
        refine bk_ldcS C (i := 5) (tx := "pressure") rfl dX8_settingNamed_46 ?_
        obtain ⟨r_12, hr_11, hq⟩ := bk_bd_some hq
        refine bk_callV (rest := []) (As := [.ref (G.2.2.2.1 5)]) (ro := (some (.int r_12))) (Y1 := Y) (V1 := V) C hH hl.1 (c_X9_isWord hr_11) mc_X9_isWord mv_X9_isWord lk_RX8_45 hs_6 rfl rfl ⟨rfl, rfl⟩ ⟨by decide, by decide⟩ rfl (Nat.le_of_ble_eq_true rfl) dX8_settingNamed_48 ⟨by decide, by decide⟩ (fun H locs hH => ?_)
        refine lv_if_eq (tgt := 56) hx hb dX8_settingNamed_51 (by decide) (fun hc_19 => ?_) (fun hc_19 => ?_)
        · rw [if_pos hc_19] at hq
          refine lv_aload_n hx hb dX8_settingNamed_56 rfl (lv_at hl 0 rfl) ?_
          refine bk_getr C hH fl_RX8_14 hs_1 rfl hr_3 dX8_settingNamed_57 ?_
          refine bk_ldcS C (i := 6) (tx := "mark") rfl dX8_settingNamed_60 ?_
          obtain ⟨r_14, hr_13, hq⟩ := bk_bd_some hq
          refine bk_callV (rest := []) (As := [.ref (G.2.2.2.1 6)]) (ro := (some (.int r_14))) (Y1 := Y) (V1 := V) C hH hl.1 (c_X9_isWord hr_13) mc_X9_isWord mv_X9_isWord lk_RX8_45 hs_6 rfl rfl ⟨rfl, rfl⟩ ⟨by decide, by decide⟩ rfl (Nat.le_of_ble_eq_true rfl) dX8_settingNamed_62 ⟨by decide, by decide⟩ (fun H locs hH => ?_)
          refine lv_if_eq (tgt := 70) hx hb dX8_settingNamed_65 (by decide) (fun hc_18 => ?_) (fun hc_18 => ?_)
          · rw [if_pos hc_18] at hq
            refine lv_aload_n hx hb dX8_settingNamed_70 rfl (lv_at hl 0 rfl) ?_
            refine bk_getr C hH fl_RX8_14 hs_1 rfl hr_3 dX8_settingNamed_71 ?_
            refine bk_ldcS C (i := 7) (tx := "clung") rfl dX8_settingNamed_74 ?_
            obtain ⟨r_16, hr_15, hq⟩ := bk_bd_some hq
            refine bk_callV (rest := []) (As := [.ref (G.2.2.2.1 7)]) (ro := (some (.int r_16))) (Y1 := Y) (V1 := V) C hH hl.1 (c_X9_isWord hr_15) mc_X9_isWord mv_X9_isWord lk_RX8_45 hs_6 rfl rfl ⟨rfl, rfl⟩ ⟨by decide, by decide⟩ rfl (Nat.le_of_ble_eq_true rfl) dX8_settingNamed_76 ⟨by decide, by decide⟩ (fun H locs hH => ?_)
            refine lv_if_eq (tgt := 87) hx hb dX8_settingNamed_79 (by decide) (fun hc_17 => ?_) (fun hc_17 => ?_)
            · rw [if_pos hc_17] at hq
              refine lv_iconst (v := (-1)) hx hb dX8_settingNamed_87 (by decide) ?_
              cases hq
              exact bk_iret C hH dX8_settingNamed_88
            · rw [if_neg hc_17] at hq
              refine lv_bipush (v := 6) hx hb dX8_settingNamed_82 (by decide) ?_
              refine lv_goto (tgt := 88) hx hb dX8_settingNamed_84 (by decide) ?_
              cases hq
              exact bk_iret C hH dX8_settingNamed_88
          · rw [if_neg hc_18] at hq
            refine lv_iconst (v := 5) hx hb dX8_settingNamed_68 (by decide) ?_
            cases hq
            exact bk_iret C hH dX8_settingNamed_69
        · rw [if_neg hc_19] at hq
          refine lv_iconst (v := 4) hx hb dX8_settingNamed_54 (by decide) ?_
          cases hq
          exact bk_iret C hH dX8_settingNamed_55
      · rw [if_neg hc_20] at hq
        refine lv_iconst (v := 3) hx hb dX8_settingNamed_40 (by decide) ?_
        cases hq
        exact bk_iret C hH dX8_settingNamed_41
    · rw [if_neg hc_21] at hq
      refine lv_iconst (v := 2) hx hb dX8_settingNamed_26 (by decide) ?_
      cases hq
      exact bk_iret C hH dX8_settingNamed_27
  · rw [if_neg hc_22] at hq
    refine lv_iconst (v := 1) hx hb dX8_settingNamed_12 (by decide) ?_
    cases hq
    exact bk_iret C hH dX8_settingNamed_13
set_option maxRecDepth 100000 in
theorem c_X8_settingNamed {l : Launch} {G : bk_G} {N : Nat} {Y : bk_Lay} {V : bk_Val} {a0 : Nat} {out : Int32} (hq : q_X8_settingNamed N Y V a0 = some out) : Met l yX8_settingNamed (bk_ws yX8_settingNamed cX8_settingNamed 1 (some FieldType.int)) rm_X8_settingNamed (bk_Pc G [.ref a0] Y V) (bk_Q G (some (.int out)) Y V) 0 0 (bk_A G) :=
  bk_met (by decide) (Nat.le_of_ble_eq_true rfl) (fun p e s m args below meth c ls C hnm hH hl => w_X8_settingNamed C _ _ _ _ _ _ hl hH hq)

def rm_X5_inchesApart : Room := bk_rm 2 0 0 43
set_option maxRecDepth 100000 in
set_option maxHeartbeats 4000000 in
theorem w_X5_inchesApart (C : bk_C G p s m args meth c cX5_inchesApart RX5 4 (some FieldType.int)) : ∀ (V : bk_Val) (a0 : Nat) (x1 : Int32) (x2 : Int32) (H : Heap) (locs : List Loc) (ls : Array Slot) (out : Int32), lv_has ls 4 [(0, .ref a0), (1, .int x1), (2, .int x2)] → bk_H G Y V s.heap H locs → q_X5_inchesApart N Y V a0 x1 x2 = some out → W p l e rm_X5_inchesApart s m args below meth c H locs 0 0 (MQ below (bk_Q G (some (.int out)) Y V) args s 0 0 (bk_A G)) (F0 m 0 ls []) := by
  have hx := C.1
  have hb := C.2.1
  intro V a0 x1 x2 H locs ls out hl hH hq
  unfold q_X5_inchesApart at hq
  refine lv_aload_n hx hb dX5_inchesApart_0 rfl (lv_at hl 0 rfl) ?_
  refine lv_aload_n hx hb dX5_inchesApart_1 rfl (lv_at hl 0 rfl) ?_
  obtain ⟨hs_1, hq⟩ := bk_ck_some hq
  obtain ⟨b_2, hr_3, hq⟩ := bk_bd_some hq
  refine bk_getr C hH fl_RX5_21 hs_1 rfl hr_3 dX5_inchesApart_2 ?_
  obtain ⟨hs_4, hq⟩ := bk_ck_some hq
  obtain ⟨b_5, hr_6, hq⟩ := bk_bd_some hq
  refine bk_getr C hH fl_RX5_86 hs_4 rfl hr_6 dX5_inchesApart_5 ?_
  refine lv_iload_n hx hb dX5_inchesApart_8 rfl (lv_at hl 1 rfl) ?_
  obtain ⟨ha_7, hq⟩ := bk_ck_some hq
  obtain ⟨hi_8, hq⟩ := bk_ck_some hq
  refine bk_iald C hH (bk_arr ha_7) (bk_in_vp hi_8) dX5_inchesApart_9 ?_
  refine lv_aload_n hx hb dX5_inchesApart_10 rfl (lv_at hl 0 rfl) ?_
  refine bk_getr C hH fl_RX5_21 hs_1 rfl hr_3 dX5_inchesApart_11 ?_
  refine bk_getr C hH fl_RX5_86 hs_4 rfl hr_6 dX5_inchesApart_14 ?_
  refine lv_iload_n hx hb dX5_inchesApart_17 rfl (lv_at hl 2 rfl) ?_
  obtain ⟨hi_9, hq⟩ := bk_ck_some hq
  refine bk_iald C hH (bk_arr ha_7) (bk_in_vp hi_9) dX5_inchesApart_18 ?_
  refine lv_isub hx hb dX5_inchesApart_19 ?_
  obtain ⟨r_11, hr_10, hq⟩ := bk_bd_some hq
  refine bk_callV (rest := []) (As := [.int ((bk_rI V b_5 x1.toNatClampNeg) - (bk_rI V b_5 x2.toNatClampNeg))]) (ro := (some (.int r_11))) (Y1 := Y) (V1 := V) C hH hl.1 (c_X5_round hr_10) mc_X5_round mv_X5_round lk_RX5_75 hs_1 rfl rfl ⟨rfl, rfl⟩ ⟨by decide, by decide⟩ rfl (Nat.le_of_ble_eq_true rfl) dX5_inchesApart_20 ⟨by decide, by decide⟩ (fun H locs hH => ?_)
  refine lv_istore_n (lv' := [(3, .int r_11), (0, .ref a0), (1, .int x1), (2, .int x2)]) hx hb dX5_inchesApart_23 rfl hl (by decide) rfl (fun ls hl => ?_)
  refine lv_iload_n hx hb dX5_inchesApart_24 rfl (lv_at hl 0 rfl) ?_
  refine lv_aload_n hx hb dX5_inchesApart_25 rfl (lv_at hl 1 rfl) ?_
  obtain ⟨r_13, hr_12, hq⟩ := bk_bd_some hq
  refine bk_callV (rest := [.int r_11]) (As := []) (ro := (some (.int r_13))) (Y1 := Y) (V1 := V) C hH hl.1 (c_X5_inches hr_12) mc_X5_inches mv_X5_inches lk_RX5_71 hs_1 rfl rfl ⟨rfl, rfl⟩ ⟨by decide, by decide⟩ rfl (Nat.le_of_ble_eq_true rfl) dX5_inchesApart_26 ⟨by decide, by decide⟩ (fun H locs hH => ?_)
  refine lv_iload_n hx hb dX5_inchesApart_29 rfl (lv_at hl 0 rfl) ?_
  refine lv_isub hx hb dX5_inchesApart_30 ?_
  obtain ⟨r_15, hr_14, hq⟩ := bk_bd_some hq
  refine bk_callS (rest := []) (As := [.int r_11, .int (r_13 - r_11)]) (ro := (some (.int r_15))) (Y1 := Y) (V1 := V) C hH hl.1 (c_J9_min_7cf53 hr_14) mc_J9_min_7cf53 st_J9_min_7cf53 lk_RX5_110 rfl ⟨rfl, rfl⟩ ⟨by decide, by decide⟩ rfl (Nat.le_of_ble_eq_true rfl) dX5_inchesApart_31 ⟨by decide, by decide⟩ (fun H locs hH => ?_)
  cases hq
  exact bk_iret C hH dX5_inchesApart_34
set_option maxRecDepth 100000 in
theorem c_X5_inchesApart {l : Launch} {G : bk_G} {N : Nat} {Y : bk_Lay} {V : bk_Val} {a0 : Nat} {x1 : Int32} {x2 : Int32} {out : Int32} (hq : q_X5_inchesApart N Y V a0 x1 x2 = some out) : Met l yX5_inchesApart (bk_ws yX5_inchesApart cX5_inchesApart 4 (some FieldType.int)) rm_X5_inchesApart (bk_Pc G [.ref a0, .int x1, .int x2] Y V) (bk_Q G (some (.int out)) Y V) 0 0 (bk_A G) :=
  bk_met (by decide) (Nat.le_of_ble_eq_true rfl) (fun p e s m args below meth c ls C hnm hH hl => w_X5_inchesApart C _ _ _ _ _ _ _ _ hl hH hq)

def rm_X5_holesNear : Room := bk_rm 3 0 0 66
set_option maxRecDepth 100000 in
set_option maxHeartbeats 4000000 in
theorem w_X5_holesNear_33 (C : bk_C G p s m args meth c cX5_holesNear RX5 4 (some FieldType.int)) (k4 : bk_Val → Nat → Int32 → Int32 → Int32 → Option (Int32)) (i4 : ∀ (V : bk_Val) (a0 : Nat) (x1 : Int32) (x2 : Int32) (x3 : Int32) (H : Heap) (locs : List Loc) (ls : Array Slot) (out : Int32), lv_has ls 4 [(0, .ref a0), (1, .int x1), (2, .int x2), (3, .int x3)] → bk_H G Y V s.heap H locs → k4 V a0 x1 x2 x3 = some out → W p l e rm_X5_holesNear s m args below meth c H locs 0 0 (MQ below (bk_Q G (some (.int out)) Y V) args s 0 0 (bk_A G)) (F0 m 4 ls [])) : ∀ (V : bk_Val) (a0 : Nat) (x1 : Int32) (x2 : Int32) (x3 : Int32) (H : Heap) (locs : List Loc) (ls : Array Slot) (out : Int32), lv_has ls 4 [(0, .ref a0), (1, .int x1), (2, .int x2), (3, .int x3)] → bk_H G Y V s.heap H locs → q_X5_holesNear_33 N Y k4 V a0 x1 x2 x3 = some out → W p l e rm_X5_holesNear s m args below meth c H locs 0 0 (MQ below (bk_Q G (some (.int out)) Y V) args s 0 0 (bk_A G)) (F0 m 33 ls []) := by
  have hx := C.1
  have hb := C.2.1
  intro V a0 x1 x2 x3 H locs ls out hl hH hq
  unfold q_X5_holesNear_33 at hq
  refine lv_iinc (v := (x3 + 1)) (lv' := [(3, .int (x3 + 1)), (0, .ref a0), (1, .int x1), (2, .int x2)]) hx hb dX5_holesNear_33 hl (k := 3) rfl rfl (by decide) rfl (fun ls hl => ?_)
  refine lv_goto (tgt := 4) hx hb dX5_holesNear_36 (by decide) ?_
  exact i4 _ _ _ _ _ _ _ _ _ (lv_sub hl [1, 2, 3, 0] rfl) hH hq

set_option maxRecDepth 100000 in
set_option maxHeartbeats 4000000 in
theorem w_X5_holesNear_4 (C : bk_C G p s m args meth c cX5_holesNear RX5 4 (some FieldType.int)) : ∀ (n : Nat), ∀ (V : bk_Val) (a0 : Nat) (x1 : Int32) (x2 : Int32) (x3 : Int32) (H : Heap) (locs : List Loc) (ls : Array Slot) (out : Int32), lv_has ls 4 [(0, .ref a0), (1, .int x1), (2, .int x2), (3, .int x3)] → bk_H G Y V s.heap H locs → q_X5_holesNear_4 N Y n V a0 x1 x2 x3 = some out → W p l e rm_X5_holesNear s m args below meth c H locs 0 0 (MQ below (bk_Q G (some (.int out)) Y V) args s 0 0 (bk_A G)) (F0 m 4 ls []) := by
  have hx := C.1
  have hb := C.2.1
  intro n
  induction n with
  | zero =>
    intro V a0 x1 x2 x3 H locs ls out hl hH hq
    exact nomatch (show (none : Option (Int32)) = some out from hq)
  | succ n ih =>
    intro V a0 x1 x2 x3 H locs ls out hl hH hq
    unfold q_X5_holesNear_4 at hq
    refine lv_iload_n hx hb dX5_holesNear_4 rfl (lv_at hl 3 rfl) ?_
    refine lv_aload_n hx hb dX5_holesNear_5 rfl (lv_at hl 0 rfl) ?_
    obtain ⟨hs_1, hq⟩ := bk_ck_some hq
    obtain ⟨b_2, hr_3, hq⟩ := bk_bd_some hq
    refine bk_getr C hH fl_RX5_21 hs_1 rfl hr_3 dX5_holesNear_6 ?_
    obtain ⟨hs_4, hq⟩ := bk_ck_some hq
    refine bk_geti C hH fl_RX5_55 hs_4 rfl dX5_holesNear_9 ?_
    refine lv_icmp_ge (tgt := 39) hx hb dX5_holesNear_12 (by decide) (fun hc_9 => ?_) (fun hc_9 => ?_)
    · rw [if_pos hc_9] at hq
      refine lv_iload_n hx hb dX5_holesNear_39 rfl (lv_at hl 2 rfl) ?_
      cases hq
      exact bk_iret C hH dX5_holesNear_40
    · rw [if_neg hc_9] at hq
      refine lv_iload_n hx hb dX5_holesNear_15 rfl (lv_at hl 3 rfl) ?_
      refine lv_iload_n hx hb dX5_holesNear_16 rfl (lv_at hl 1 rfl) ?_
      refine lv_icmp_eq (tgt := 33) hx hb dX5_holesNear_17 (by decide) (fun hc_8 => ?_) (fun hc_8 => ?_)
      · rw [if_pos hc_8] at hq
        exact w_X5_holesNear_33 C _ ih _ _ _ _ _ _ _ _ _ (lv_sub hl [0, 1, 2, 3] rfl) hH hq
      · rw [if_neg hc_8] at hq
        refine lv_aload_n hx hb dX5_holesNear_20 rfl (lv_at hl 0 rfl) ?_
        refine lv_iload_n hx hb dX5_holesNear_21 rfl (lv_at hl 3 rfl) ?_
        refine lv_iload_n hx hb dX5_holesNear_22 rfl (lv_at hl 1 rfl) ?_
        obtain ⟨r_6, hr_5, hq⟩ := bk_bd_some hq
        refine bk_callV (rest := []) (As := [.int x3, .int x1]) (ro := (some (.int r_6))) (Y1 := Y) (V1 := V) C hH hl.1 (c_X5_inchesApart hr_5) mc_X5_inchesApart mv_X5_inchesApart lk_RX5_107 hs_1 rfl rfl ⟨rfl, rfl⟩ ⟨by decide, by decide⟩ rfl (Nat.le_of_ble_eq_true rfl) dX5_holesNear_23 ⟨by decide, by decide⟩ (fun H locs hH => ?_)
        refine lv_iconst (v := 2) hx hb dX5_holesNear_26 (by decide) ?_
        refine lv_icmp_gt (tgt := 33) hx hb dX5_holesNear_27 (by decide) (fun hc_7 => ?_) (fun hc_7 => ?_)
        · rw [if_pos hc_7] at hq
          exact w_X5_holesNear_33 C _ ih _ _ _ _ _ _ _ _ _ (lv_sub hl [0, 1, 2, 3] rfl) hH hq
        · rw [if_neg hc_7] at hq
          refine lv_iinc (v := (x2 + 1)) (lv' := [(2, .int (x2 + 1)), (0, .ref a0), (1, .int x1), (3, .int x3)]) hx hb dX5_holesNear_30 hl (k := 2) rfl rfl (by decide) rfl (fun ls hl => ?_)
          exact w_X5_holesNear_33 C _ ih _ _ _ _ _ _ _ _ _ (lv_sub hl [1, 2, 0, 3] rfl) hH hq

set_option maxRecDepth 100000 in
set_option maxHeartbeats 4000000 in
theorem w_X5_holesNear (C : bk_C G p s m args meth c cX5_holesNear RX5 4 (some FieldType.int)) : ∀ (V : bk_Val) (a0 : Nat) (x1 : Int32) (H : Heap) (locs : List Loc) (ls : Array Slot) (out : Int32), lv_has ls 4 [(0, .ref a0), (1, .int x1)] → bk_H G Y V s.heap H locs → q_X5_holesNear N Y V a0 x1 = some out → W p l e rm_X5_holesNear s m args below meth c H locs 0 0 (MQ below (bk_Q G (some (.int out)) Y V) args s 0 0 (bk_A G)) (F0 m 0 ls []) := by
  have hx := C.1
  have hb := C.2.1
  intro V a0 x1 H locs ls out hl hH hq
  unfold q_X5_holesNear at hq
  refine lv_iconst (v := 0) hx hb dX5_holesNear_0 (by decide) ?_
  refine lv_istore_n (lv' := [(2, .int 0), (0, .ref a0), (1, .int x1)]) hx hb dX5_holesNear_1 rfl hl (by decide) rfl (fun ls hl => ?_)
  refine lv_iconst (v := 0) hx hb dX5_holesNear_2 (by decide) ?_
  refine lv_istore_n (lv' := [(3, .int 0), (2, .int 0), (0, .ref a0), (1, .int x1)]) hx hb dX5_holesNear_3 rfl hl (by decide) rfl (fun ls hl => ?_)
  exact w_X5_holesNear_4 C _ _ _ _ _ _ _ _ _ _ (lv_sub hl [2, 3, 1, 0] rfl) hH hq
set_option maxRecDepth 100000 in
theorem c_X5_holesNear {l : Launch} {G : bk_G} {N : Nat} {Y : bk_Lay} {V : bk_Val} {a0 : Nat} {x1 : Int32} {out : Int32} (hq : q_X5_holesNear N Y V a0 x1 = some out) : Met l yX5_holesNear (bk_ws yX5_holesNear cX5_holesNear 4 (some FieldType.int)) rm_X5_holesNear (bk_Pc G [.ref a0, .int x1] Y V) (bk_Q G (some (.int out)) Y V) 0 0 (bk_A G) :=
  bk_met (by decide) (Nat.le_of_ble_eq_true rfl) (fun p e s m args below meth c ls C hnm hH hl => w_X5_holesNear C _ _ _ _ _ _ _ hl hH hq)

def rm_X5_holdsBy : Room := bk_rm 4 0 0 89
set_option maxRecDepth 100000 in
set_option maxHeartbeats 4000000 in
theorem w_X5_holdsBy (C : bk_C G p s m args meth c cX5_holdsBy RX5 5 (some FieldType.int)) : ∀ (V : bk_Val) (a0 : Nat) (x1 : Int32) (x2 : Int32) (x3 : Int32) (x4 : Int32) (H : Heap) (locs : List Loc) (ls : Array Slot) (out : Int32 × bk_Val), lv_has ls 5 [(0, .ref a0), (1, .int x1), (2, .int x2), (3, .int x3), (4, .int x4)] → bk_H G Y V s.heap H locs → q_X5_holdsBy N Y V a0 x1 x2 x3 x4 = some out → W p l e rm_X5_holdsBy s m args below meth c H locs 0 0 (MQ below (bk_Q G (some (.int out.1)) Y out.2) args s 0 0 (bk_A G)) (F0 m 0 ls []) := by
  have hx := C.1
  have hb := C.2.1
  intro V a0 x1 x2 x3 x4 H locs ls out hl hH hq
  unfold q_X5_holdsBy at hq
  refine lv_aload_n hx hb dX5_holdsBy_0 rfl (lv_at hl 0 rfl) ?_
  obtain ⟨hs_1, hq⟩ := bk_ck_some hq
  obtain ⟨b_2, hr_3, hq⟩ := bk_bd_some hq
  refine bk_getr C hH fl_RX5_46 hs_1 rfl hr_3 dX5_holdsBy_1 ?_
  obtain ⟨hs_6, hq⟩ := bk_ck_some hq
  obtain ⟨r_5, hr_4, hq⟩ := bk_bd_some hq
  refine bk_callV (rest := []) (As := []) (ro := (some (.int r_5))) (Y1 := Y) (V1 := V) C hH hl.1 (c_X4_isTold hr_4) mc_X4_isTold mv_X4_isTold lk_RX5_120 hs_6 rfl rfl ⟨rfl, rfl⟩ ⟨by decide, by decide⟩ rfl (Nat.le_of_ble_eq_true rfl) dX5_holdsBy_4 ⟨by decide, by decide⟩ (fun H locs hH => ?_)
  refine lv_if_ne (tgt := 20) hx hb dX5_holdsBy_7 (by decide) (fun hc_50 => ?_) (fun hc_50 => ?_)
  · rw [if_neg hc_50] at hq
    refine lv_aload_n hx hb dX5_holdsBy_20 rfl (lv_at hl 0 rfl) ?_
    obtain ⟨b_7, hr_8, hq⟩ := bk_bd_some hq
    refine bk_getr C hH fl_RX5_49 hs_1 rfl hr_8 dX5_holdsBy_21 ?_
    refine lv_iconst (v := 0) hx hb dX5_holdsBy_24 (by decide) ?_
    refine lv_aload_n hx hb dX5_holdsBy_25 rfl (lv_at hl 0 rfl) ?_
    obtain ⟨b_9, hr_10, hq⟩ := bk_bd_some hq
    refine bk_getr C hH fl_RX5_21 hs_1 rfl hr_10 dX5_holdsBy_26 ?_
    obtain ⟨hs_11, hq⟩ := bk_ck_some hq
    obtain ⟨b_12, hr_13, hq⟩ := bk_bd_some hq
    refine bk_getr C hH fl_RX5_124 hs_11 rfl hr_13 dX5_holdsBy_29 ?_
    refine lv_iload_n hx hb dX5_holdsBy_32 rfl (lv_at hl 1 rfl) ?_
    obtain ⟨ha_14, hq⟩ := bk_ck_some hq
    obtain ⟨hi_15, hq⟩ := bk_ck_some hq
    refine bk_iald C hH (bk_arr ha_14) (bk_in_vp hi_15) dX5_holdsBy_33 ?_
    obtain ⟨ha_16, hq⟩ := bk_ck_some hq
    obtain ⟨hi_17, hq⟩ := bk_ck_some hq
    refine bk_iast C hH (bk_arr ha_16) (bk_in_vp hi_17) dX5_holdsBy_34 (fun V_18 H locs e_19 hH => ?_)
    have hq := bk_let_eq e_19 hq
    refine lv_aload_n hx hb dX5_holdsBy_35 rfl (lv_at hl 0 rfl) ?_
    refine bk_getr C hH fl_RX5_49 hs_1 rfl hr_8 dX5_holdsBy_36 ?_
    refine lv_iconst (v := 1) hx hb dX5_holdsBy_39 (by decide) ?_
    refine lv_aload_n hx hb dX5_holdsBy_40 rfl (lv_at hl 0 rfl) ?_
    refine bk_getr C hH fl_RX5_21 hs_1 rfl hr_10 dX5_holdsBy_41 ?_
    obtain ⟨b_20, hr_21, hq⟩ := bk_bd_some hq
    refine bk_getr C hH fl_RX5_89 hs_11 rfl hr_21 dX5_holdsBy_44 ?_
    refine lv_iload_n hx hb dX5_holdsBy_47 rfl (lv_at hl 1 rfl) ?_
    obtain ⟨ha_22, hq⟩ := bk_ck_some hq
    obtain ⟨hi_23, hq⟩ := bk_ck_some hq
    refine bk_iald C hH (bk_arr ha_22) (bk_in_vp hi_23) dX5_holdsBy_48 ?_
    obtain ⟨hi_24, hq⟩ := bk_ck_some hq
    refine bk_iast C hH (bk_arr ha_16) (bk_in_vp hi_24) dX5_holdsBy_49 (fun V_25 H locs e_26 hH => ?_)
    have hq := bk_let_eq e_26 hq
    refine lv_aload_n hx hb dX5_holdsBy_50 rfl (lv_at hl 0 rfl) ?_
    refine bk_getr C hH fl_RX5_49 hs_1 rfl hr_8 dX5_holdsBy_51 ?_
    refine lv_iconst (v := 2) hx hb dX5_holdsBy_54 (by decide) ?_
    refine lv_iload_n hx hb dX5_holdsBy_55 rfl (lv_at hl 2 rfl) ?_
    obtain ⟨hi_27, hq⟩ := bk_ck_some hq
    refine bk_iast C hH (bk_arr ha_16) (bk_in_vp hi_27) dX5_holdsBy_56 (fun V_28 H locs e_29 hH => ?_)
    have hq := bk_let_eq e_29 hq
    refine lv_aload_n hx hb dX5_holdsBy_57 rfl (lv_at hl 0 rfl) ?_
    refine bk_getr C hH fl_RX5_49 hs_1 rfl hr_8 dX5_holdsBy_58 ?_
    refine lv_iconst (v := 3) hx hb dX5_holdsBy_61 (by decide) ?_
    refine lv_iload_n hx hb dX5_holdsBy_62 rfl (lv_at hl 3 rfl) ?_
    obtain ⟨hi_30, hq⟩ := bk_ck_some hq
    refine bk_iast C hH (bk_arr ha_16) (bk_in_vp hi_30) dX5_holdsBy_63 (fun V_31 H locs e_32 hH => ?_)
    have hq := bk_let_eq e_32 hq
    refine lv_aload_n hx hb dX5_holdsBy_64 rfl (lv_at hl 0 rfl) ?_
    refine bk_getr C hH fl_RX5_49 hs_1 rfl hr_8 dX5_holdsBy_65 ?_
    refine lv_iconst (v := 4) hx hb dX5_holdsBy_68 (by decide) ?_
    refine lv_iload hx hb dX5_holdsBy_69 (lv_at hl 4 rfl) ?_
    obtain ⟨hi_33, hq⟩ := bk_ck_some hq
    refine bk_iast C hH (bk_arr ha_16) (bk_in_vp hi_33) dX5_holdsBy_71 (fun V_34 H locs e_35 hH => ?_)
    have hq := bk_let_eq e_35 hq
    refine lv_aload_n hx hb dX5_holdsBy_72 rfl (lv_at hl 0 rfl) ?_
    refine bk_getr C hH fl_RX5_49 hs_1 rfl hr_8 dX5_holdsBy_73 ?_
    refine lv_iconst (v := 5) hx hb dX5_holdsBy_76 (by decide) ?_
    refine lv_aload_n hx hb dX5_holdsBy_77 rfl (lv_at hl 0 rfl) ?_
    refine lv_iload_n hx hb dX5_holdsBy_78 rfl (lv_at hl 1 rfl) ?_
    obtain ⟨r_37, hr_36, hq⟩ := bk_bd_some hq
    refine bk_callV (rest := [.int 5, .ref b_7]) (As := [.int x1]) (ro := (some (.int r_37))) (Y1 := Y) (V1 := V_34) C hH hl.1 (c_X5_holesNear hr_36) mc_X5_holesNear mv_X5_holesNear lk_RX5_138 hs_1 rfl rfl ⟨rfl, rfl⟩ ⟨by decide, by decide⟩ rfl (Nat.le_of_ble_eq_true rfl) dX5_holdsBy_79 ⟨by decide, by decide⟩ (fun H locs hH => ?_)
    obtain ⟨hi_38, hq⟩ := bk_ck_some hq
    refine bk_iast C hH (bk_arr ha_16) (bk_in_vp hi_38) dX5_holdsBy_82 (fun V_39 H locs e_40 hH => ?_)
    have hq := bk_let_eq e_40 hq
    refine lv_iconst (v := 0) hx hb dX5_holdsBy_83 (by decide) ?_
    refine lv_aload_n hx hb dX5_holdsBy_84 rfl (lv_at hl 0 rfl) ?_
    refine bk_getr C hH fl_RX5_46 hs_1 rfl hr_3 dX5_holdsBy_85 ?_
    refine lv_aload_n hx hb dX5_holdsBy_88 rfl (lv_at hl 0 rfl) ?_
    refine bk_getr C hH fl_RX5_49 hs_1 rfl hr_8 dX5_holdsBy_89 ?_
    obtain ⟨r_42, V_43, hr_41, hq⟩ := bk_bd2_some hq
    refine bk_callV (rest := [.int 0]) (As := [.ref b_7]) (ro := (some (.int r_42))) (Y1 := Y) (V1 := V_43) C hH hl.1 (c_X4_valueBy hr_41) mc_X4_valueBy mv_X4_valueBy lk_RX5_127 hs_6 rfl rfl ⟨rfl, rfl⟩ ⟨by decide, by decide⟩ rfl (Nat.le_of_ble_eq_true rfl) dX5_holdsBy_92 ⟨by decide, by decide⟩ (fun H locs hH => ?_)
    refine lv_bipush (v := 100) hx hb dX5_holdsBy_95 (by decide) ?_
    obtain ⟨r_45, hr_44, hq⟩ := bk_bd_some hq
    refine bk_callS (rest := [.int 0]) (As := [.int r_42, .int 100]) (ro := (some (.int r_45))) (Y1 := Y) (V1 := V_43) C hH hl.1 (c_J9_min_7cf53 hr_44) mc_J9_min_7cf53 st_J9_min_7cf53 lk_RX5_110 rfl ⟨rfl, rfl⟩ ⟨by decide, by decide⟩ rfl (Nat.le_of_ble_eq_true rfl) dX5_holdsBy_97 ⟨by decide, by decide⟩ (fun H locs hH => ?_)
    obtain ⟨r_47, hr_46, hq⟩ := bk_bd_some hq
    refine bk_callS (rest := []) (As := [.int 0, .int r_45]) (ro := (some (.int r_47))) (Y1 := Y) (V1 := V_43) C hH hl.1 (c_J9_max_7cf53 hr_46) mc_J9_max_7cf53 st_J9_max_7cf53 lk_RX5_62 rfl ⟨rfl, rfl⟩ ⟨by decide, by decide⟩ rfl (Nat.le_of_ble_eq_true rfl) dX5_holdsBy_100 ⟨by decide, by decide⟩ (fun H locs hH => ?_)
    cases hq
    exact bk_iret C hH dX5_holdsBy_103
  · rw [if_pos hc_50] at hq
    refine lv_bipush (v := 12) hx hb dX5_holdsBy_10 (by decide) ?_
    refine lv_iload_n hx hb dX5_holdsBy_12 rfl (lv_at hl 2 rfl) ?_
    refine lv_imul hx hb dX5_holdsBy_13 ?_
    refine lv_bipush (v := 100) hx hb dX5_holdsBy_14 (by decide) ?_
    obtain ⟨r_49, hr_48, hq⟩ := bk_bd_some hq
    refine bk_callS (rest := []) (As := [.int (12 * x2), .int 100]) (ro := (some (.int r_49))) (Y1 := Y) (V1 := V) C hH hl.1 (c_J9_min_7cf53 hr_48) mc_J9_min_7cf53 st_J9_min_7cf53 lk_RX5_110 rfl ⟨rfl, rfl⟩ ⟨by decide, by decide⟩ rfl (Nat.le_of_ble_eq_true rfl) dX5_holdsBy_16 ⟨by decide, by decide⟩ (fun H locs hH => ?_)
    cases hq
    exact bk_iret C hH dX5_holdsBy_19
set_option maxRecDepth 100000 in
theorem c_X5_holdsBy {l : Launch} {G : bk_G} {N : Nat} {Y : bk_Lay} {V : bk_Val} {a0 : Nat} {x1 : Int32} {x2 : Int32} {x3 : Int32} {x4 : Int32} {out : Int32 × bk_Val} (hq : q_X5_holdsBy N Y V a0 x1 x2 x3 x4 = some out) : Met l yX5_holdsBy (bk_ws yX5_holdsBy cX5_holdsBy 5 (some FieldType.int)) rm_X5_holdsBy (bk_Pc G [.ref a0, .int x1, .int x2, .int x3, .int x4] Y V) (bk_Q G (some (.int out.1)) Y out.2) 0 0 (bk_A G) :=
  bk_met (by decide) (Nat.le_of_ble_eq_true rfl) (fun p e s m args below meth c ls C hnm hH hl => w_X5_holdsBy C _ _ _ _ _ _ _ _ _ _ hl hH hq)

def rm_X8_readSettings : Room := bk_rm 3 0 0 62
set_option maxRecDepth 100000 in
set_option maxHeartbeats 4000000 in
theorem w_X8_readSettings_48 (C : bk_C G p s m args meth c cX8_readSettings RX8 5 (some FieldType.boolean)) (k15 : bk_Val → Nat → Int32 → Int32 → Option (Int32 × bk_Val)) (i15 : ∀ (V : bk_Val) (a0 : Nat) (x2 : Int32) (x3 : Int32) (H : Heap) (locs : List Loc) (ls : Array Slot) (out : Int32 × bk_Val), lv_has ls 5 [(0, .ref a0), (2, .int x2), (3, .int x3)] → bk_H G Y V s.heap H locs → k15 V a0 x2 x3 = some out → W p l e rm_X8_readSettings s m args below meth c H locs 0 0 (MQ below (bk_Q G (some (.int out.1)) Y out.2) args s 0 0 (bk_A G)) (F0 m 15 ls [])) : ∀ (V : bk_Val) (a0 : Nat) (x2 : Int32) (x3 : Int32) (sx0 : Int32) (H : Heap) (locs : List Loc) (ls : Array Slot) (out : Int32 × bk_Val), lv_has ls 5 [(0, .ref a0), (2, .int x2), (3, .int x3)] → bk_H G Y V s.heap H locs → q_X8_readSettings_48 N Y k15 V a0 x2 x3 sx0 = some out → W p l e rm_X8_readSettings s m args below meth c H locs 0 0 (MQ below (bk_Q G (some (.int out.1)) Y out.2) args s 0 0 (bk_A G)) (F0 m 48 ls [.int sx0]) := by
  have hx := C.1
  have hb := C.2.1
  intro V a0 x2 x3 sx0 H locs ls out hl hH hq
  unfold q_X8_readSettings_48 at hq
  refine lv_istore (lv' := [(4, .int sx0), (0, .ref a0), (2, .int x2), (3, .int x3)]) hx hb dX8_readSettings_48 hl (by decide) rfl (fun ls hl => ?_)
  refine lv_aload_n hx hb dX8_readSettings_50 rfl (lv_at hl 1 rfl) ?_
  refine bk_gst0 C hH (by decide +kernel) dX8_readSettings_51 ?_
  refine lv_iload_n hx hb dX8_readSettings_54 rfl (lv_at hl 3 rfl) ?_
  obtain ⟨hi_1, hq⟩ := bk_ck_some hq
  refine bk_tld0 C hH (bk_in_vp hi_1) dX8_readSettings_55 ?_
  refine lv_iload hx hb dX8_readSettings_56 (lv_at hl 0 rfl) ?_
  obtain ⟨hs_5, hq⟩ := bk_ck_some hq
  obtain ⟨r_3, V_4, hr_2, hq⟩ := bk_bd2_some hq
  refine bk_callV (rest := []) (As := [.int (bk_least.getD x3.toNatClampNeg 0), .int sx0]) (ro := (some (.int r_3))) (Y1 := Y) (V1 := V_4) C hH hl.1 (c_X8_readNumber hr_2) mc_X8_readNumber mv_X8_readNumber lk_RX8_140 hs_5 rfl rfl ⟨rfl, rfl⟩ ⟨by decide, by decide⟩ rfl (Nat.le_of_ble_eq_true rfl) dX8_readSettings_58 ⟨by decide, by decide⟩ (fun H locs hH => ?_)
  refine lv_if_ne (tgt := 66) hx hb dX8_readSettings_61 (by decide) (fun hc_15 => ?_) (fun hc_15 => ?_)
  · rw [if_neg hc_15] at hq
    refine lv_aload_n hx hb dX8_readSettings_66 rfl (lv_at hl 1 rfl) ?_
    obtain ⟨b_6, hr_7, hq⟩ := bk_bd_some hq
    refine bk_getr C hH fl_RX8_20 hs_5 rfl hr_7 dX8_readSettings_67 ?_
    obtain ⟨hs_8, hq⟩ := bk_ck_some hq
    obtain ⟨b_9, hr_10, hq⟩ := bk_bd_some hq
    refine bk_getr C hH fl_RX8_144 hs_8 rfl hr_10 dX8_readSettings_70 ?_
    refine lv_iload_n hx hb dX8_readSettings_73 rfl (lv_at hl 3 rfl) ?_
    refine lv_aload_n hx hb dX8_readSettings_74 rfl (lv_at hl 1 rfl) ?_
    refine bk_geti C hH fl_RX8_147 hs_5 rfl dX8_readSettings_75 ?_
    obtain ⟨ha_11, hq⟩ := bk_ck_some hq
    obtain ⟨hi_12, hq⟩ := bk_ck_some hq
    refine bk_iast C hH (bk_arr ha_11) (bk_in_vp hi_12) dX8_readSettings_78 (fun V_13 H locs e_14 hH => ?_)
    have hq := bk_let_eq e_14 hq
    refine lv_iinc (v := (x3 + 1)) (lv' := [(3, .int (x3 + 1)), (4, .int sx0), (0, .ref a0), (2, .int x2)]) hx hb dX8_readSettings_79 hl (k := 3) rfl rfl (by decide) rfl (fun ls hl => ?_)
    refine lv_goto (tgt := 15) hx hb dX8_readSettings_82 (by decide) ?_
    exact i15 _ _ _ _ _ _ _ _ (lv_sub hl [2, 3, 0] rfl) hH hq
  · rw [if_pos hc_15] at hq
    refine lv_iconst (v := 0) hx hb dX8_readSettings_64 (by decide) ?_
    cases hq
    exact bk_zret C hH (Or.inl rfl) dX8_readSettings_65

set_option maxRecDepth 100000 in
set_option maxHeartbeats 4000000 in
theorem w_X8_readSettings_15 (C : bk_C G p s m args meth c cX8_readSettings RX8 5 (some FieldType.boolean)) : ∀ (n : Nat), ∀ (V : bk_Val) (a0 : Nat) (x2 : Int32) (x3 : Int32) (H : Heap) (locs : List Loc) (ls : Array Slot) (out : Int32 × bk_Val), lv_has ls 5 [(0, .ref a0), (2, .int x2), (3, .int x3)] → bk_H G Y V s.heap H locs → q_X8_readSettings_15 N Y n V a0 x2 x3 = some out → W p l e rm_X8_readSettings s m args below meth c H locs 0 0 (MQ below (bk_Q G (some (.int out.1)) Y out.2) args s 0 0 (bk_A G)) (F0 m 15 ls []) := by
  have hx := C.1
  have hb := C.2.1
  intro n
  induction n with
  | zero =>
    intro V a0 x2 x3 H locs ls out hl hH hq
    exact nomatch (show (none : Option (Int32 × bk_Val)) = some out from hq)
  | succ n ih =>
    intro V a0 x2 x3 H locs ls out hl hH hq
    unfold q_X8_readSettings_15 at hq
    refine lv_iload_n hx hb dX8_readSettings_15 rfl (lv_at hl 2 rfl) ?_
    refine lv_iload_n hx hb dX8_readSettings_16 rfl (lv_at hl 1 rfl) ?_
    refine lv_icmp_gt (tgt := 85) hx hb dX8_readSettings_17 (by decide) (fun hc_25 => ?_) (fun hc_25 => ?_)
    · rw [if_pos hc_25] at hq
      refine lv_iconst (v := 1) hx hb dX8_readSettings_85 (by decide) ?_
      cases hq
      exact bk_zret C hH (Or.inr rfl) dX8_readSettings_86
    · rw [if_neg hc_25] at hq
      refine lv_iload_n hx hb dX8_readSettings_20 rfl (lv_at hl 2 rfl) ?_
      refine lv_bipush (v := 8) hx hb dX8_readSettings_21 (by decide) ?_
      refine lv_icmp_ge (tgt := 85) hx hb dX8_readSettings_23 (by decide) (fun hc_24 => ?_) (fun hc_24 => ?_)
      · rw [if_pos hc_24] at hq
        refine lv_iconst (v := 1) hx hb dX8_readSettings_85 (by decide) ?_
        cases hq
        exact bk_zret C hH (Or.inr rfl) dX8_readSettings_86
      · rw [if_neg hc_24] at hq
        refine lv_iload_n hx hb dX8_readSettings_26 rfl (lv_at hl 2 rfl) ?_
        refine lv_iconst (v := 5) hx hb dX8_readSettings_27 (by decide) ?_
        refine lv_icmp_ne (tgt := 43) hx hb dX8_readSettings_28 (by decide) (fun hc_23 => ?_) (fun hc_23 => ?_)
        · rw [if_neg hc_23] at hq
          refine bk_gst1 C hH (by decide +kernel) dX8_readSettings_43 ?_
          refine lv_iload_n hx hb dX8_readSettings_46 rfl (lv_at hl 2 rfl) ?_
          obtain ⟨hi_16, hq⟩ := bk_ck_some hq
          refine bk_tld1 C hH (bk_in_vp hi_16) dX8_readSettings_47 ?_
          exact w_X8_readSettings_48 C _ ih _ _ _ _ _ _ _ _ _ (lv_sub hl [0, 1, 2] rfl) hH hq
        · rw [if_pos hc_23] at hq
          refine lv_aload_n hx hb dX8_readSettings_31 rfl (lv_at hl 0 rfl) ?_
          obtain ⟨hs_17, hq⟩ := bk_ck_some hq
          obtain ⟨b_18, hr_19, hq⟩ := bk_bd_some hq
          refine bk_getr C hH fl_RX8_20 hs_17 rfl hr_19 dX8_readSettings_32 ?_
          obtain ⟨hs_22, hq⟩ := bk_ck_some hq
          obtain ⟨r_21, hr_20, hq⟩ := bk_bd_some hq
          refine bk_callV (rest := []) (As := []) (ro := (some (.int r_21))) (Y1 := Y) (V1 := V) C hH hl.1 (c_X5_inches hr_20) mc_X5_inches mv_X5_inches lk_RX8_131 hs_22 rfl rfl ⟨rfl, rfl⟩ ⟨by decide, by decide⟩ rfl (Nat.le_of_ble_eq_true rfl) dX8_readSettings_35 ⟨by decide, by decide⟩ (fun H locs hH => ?_)
          refine lv_iconst (v := 1) hx hb dX8_readSettings_38 (by decide) ?_
          refine lv_isub hx hb dX8_readSettings_39 ?_
          refine lv_goto (tgt := 48) hx hb dX8_readSettings_40 (by decide) ?_
          exact w_X8_readSettings_48 C _ ih _ _ _ _ _ _ _ _ _ (lv_sub hl [0, 1, 2] rfl) hH hq

set_option maxRecDepth 100000 in
set_option maxHeartbeats 4000000 in
theorem w_X8_readSettings_12 (C : bk_C G p s m args meth c cX8_readSettings RX8 5 (some FieldType.boolean)) : ∀ (V : bk_Val) (a0 : Nat) (x1 : Int32) (sx0 : Int32) (H : Heap) (locs : List Loc) (ls : Array Slot) (out : Int32 × bk_Val), lv_has ls 5 [(0, .ref a0), (1, .int x1)] → bk_H G Y V s.heap H locs → q_X8_readSettings_12 N Y V a0 x1 sx0 = some out → W p l e rm_X8_readSettings s m args below meth c H locs 0 0 (MQ below (bk_Q G (some (.int out.1)) Y out.2) args s 0 0 (bk_A G)) (F0 m 12 ls [.int sx0]) := by
  have hx := C.1
  have hb := C.2.1
  intro V a0 x1 sx0 H locs ls out hl hH hq
  unfold q_X8_readSettings_12 at hq
  refine lv_istore_n (lv' := [(2, .int sx0), (0, .ref a0), (1, .int x1)]) hx hb dX8_readSettings_12 rfl hl (by decide) rfl (fun ls hl => ?_)
  refine lv_iload_n hx hb dX8_readSettings_13 rfl (lv_at hl 2 rfl) ?_
  refine lv_istore_n (lv' := [(3, .int x1), (2, .int sx0), (0, .ref a0), (1, .int x1)]) hx hb dX8_readSettings_14 rfl hl (by decide) rfl (fun ls hl => ?_)
  exact w_X8_readSettings_15 C _ _ _ _ _ _ _ _ _ (lv_sub hl [2, 1, 0] rfl) hH hq

set_option maxRecDepth 100000 in
set_option maxHeartbeats 4000000 in
theorem w_X8_readSettings (C : bk_C G p s m args meth c cX8_readSettings RX8 5 (some FieldType.boolean)) : ∀ (V : bk_Val) (a0 : Nat) (x1 : Int32) (H : Heap) (locs : List Loc) (ls : Array Slot) (out : Int32 × bk_Val), lv_has ls 5 [(0, .ref a0), (1, .int x1)] → bk_H G Y V s.heap H locs → q_X8_readSettings N Y V a0 x1 = some out → W p l e rm_X8_readSettings s m args below meth c H locs 0 0 (MQ below (bk_Q G (some (.int out.1)) Y out.2) args s 0 0 (bk_A G)) (F0 m 0 ls []) := by
  have hx := C.1
  have hb := C.2.1
  intro V a0 x1 H locs ls out hl hH hq
  unfold q_X8_readSettings at hq
  refine lv_iload_n hx hb dX8_readSettings_0 rfl (lv_at hl 1 rfl) ?_
  refine lv_bipush (v := 6) hx hb dX8_readSettings_1 (by decide) ?_
  refine lv_icmp_ne (tgt := 11) hx hb dX8_readSettings_3 (by decide) (fun hc_26 => ?_) (fun hc_26 => ?_)
  · rw [if_neg hc_26] at hq
    refine lv_iload_n hx hb dX8_readSettings_11 rfl (lv_at hl 1 rfl) ?_
    exact w_X8_readSettings_12 C _ _ _ _ _ _ _ _ (lv_sub hl [0, 1] rfl) hH hq
  · rw [if_pos hc_26] at hq
    refine lv_bipush (v := 7) hx hb dX8_readSettings_6 (by decide) ?_
    refine lv_goto (tgt := 12) hx hb dX8_readSettings_8 (by decide) ?_
    exact w_X8_readSettings_12 C _ _ _ _ _ _ _ _ (lv_sub hl [0, 1] rfl) hH hq
set_option maxRecDepth 100000 in
theorem c_X8_readSettings {l : Launch} {G : bk_G} {N : Nat} {Y : bk_Lay} {V : bk_Val} {a0 : Nat} {x1 : Int32} {out : Int32 × bk_Val} (hq : q_X8_readSettings N Y V a0 x1 = some out) : Met l yX8_readSettings (bk_ws yX8_readSettings cX8_readSettings 5 (some FieldType.boolean)) rm_X8_readSettings (bk_Pc G [.ref a0, .int x1] Y V) (bk_Q G (some (.int out.1)) Y out.2) 0 0 (bk_A G) :=
  bk_met (by decide) (Nat.le_of_ble_eq_true rfl) (fun p e s m args below meth c ls C hnm hH hl => w_X8_readSettings C _ _ _ _ _ _ _ hl hH hq)

def rm_X8_mayBeginExpr : Room := bk_rm 1 0 0 21
set_option maxRecDepth 100000 in
set_option maxHeartbeats 4000000 in
theorem w_X8_mayBeginExpr (C : bk_C G p s m args meth c cX8_mayBeginExpr RX8 1 (some FieldType.boolean)) : ∀ (V : bk_Val) (a0 : Nat) (H : Heap) (locs : List Loc) (ls : Array Slot) (out : Int32), lv_has ls 1 [(0, .ref a0)] → bk_H G Y V s.heap H locs → q_X8_mayBeginExpr N Y V a0 = some out → W p l e rm_X8_mayBeginExpr s m args below meth c H locs 0 0 (MQ below (bk_Q G (some (.int out)) Y V) args s 0 0 (bk_A G)) (F0 m 0 ls []) := by
  have hx := C.1
  have hb := C.2.1
  intro V a0 H locs ls out hl hH hq
  unfold q_X8_mayBeginExpr at hq
  refine lv_aload_n hx hb dX8_mayBeginExpr_0 rfl (lv_at hl 0 rfl) ?_
  obtain ⟨hs_1, hq⟩ := bk_ck_some hq
  obtain ⟨b_2, hr_3, hq⟩ := bk_bd_some hq
  refine bk_getr C hH fl_RX8_14 hs_1 rfl hr_3 dX8_mayBeginExpr_1 ?_
  obtain ⟨hs_4, hq⟩ := bk_ck_some hq
  refine bk_geti C hH fl_RX8_60 hs_4 rfl dX8_mayBeginExpr_4 ?_
  refine lv_iconst (v := 2) hx hb dX8_mayBeginExpr_7 (by decide) ?_
  refine lv_icmp_eq (tgt := 34) hx hb dX8_mayBeginExpr_8 (by decide) (fun hc_9 => ?_) (fun hc_9 => ?_)
  · rw [if_pos hc_9] at hq
    refine lv_iconst (v := 1) hx hb dX8_mayBeginExpr_34 (by decide) ?_
    refine lv_goto (tgt := 39) hx hb dX8_mayBeginExpr_35 (by decide) ?_
    cases hq
    exact bk_zret C hH (Or.inr rfl) dX8_mayBeginExpr_39
  · rw [if_neg hc_9] at hq
    refine lv_aload_n hx hb dX8_mayBeginExpr_11 rfl (lv_at hl 0 rfl) ?_
    refine bk_getr C hH fl_RX8_14 hs_1 rfl hr_3 dX8_mayBeginExpr_12 ?_
    refine bk_geti C hH fl_RX8_60 hs_4 rfl dX8_mayBeginExpr_15 ?_
    refine lv_iconst (v := 1) hx hb dX8_mayBeginExpr_18 (by decide) ?_
    refine lv_icmp_eq (tgt := 34) hx hb dX8_mayBeginExpr_19 (by decide) (fun hc_8 => ?_) (fun hc_8 => ?_)
    · rw [if_pos hc_8] at hq
      refine lv_iconst (v := 1) hx hb dX8_mayBeginExpr_34 (by decide) ?_
      refine lv_goto (tgt := 39) hx hb dX8_mayBeginExpr_35 (by decide) ?_
      cases hq
      exact bk_zret C hH (Or.inr rfl) dX8_mayBeginExpr_39
    · rw [if_neg hc_8] at hq
      refine lv_aload_n hx hb dX8_mayBeginExpr_22 rfl (lv_at hl 0 rfl) ?_
      refine bk_getr C hH fl_RX8_14 hs_1 rfl hr_3 dX8_mayBeginExpr_23 ?_
      refine lv_bipush (v := 40) hx hb dX8_mayBeginExpr_26 (by decide) ?_
      obtain ⟨r_6, hr_5, hq⟩ := bk_bd_some hq
      refine bk_callV (rest := []) (As := [.int 40]) (ro := (some (.int r_6))) (Y1 := Y) (V1 := V) C hH hl.1 (c_X9_isSign hr_5) mc_X9_isSign mv_X9_isSign lk_RX8_222 hs_4 rfl rfl ⟨rfl, rfl⟩ ⟨by decide, by decide⟩ rfl (Nat.le_of_ble_eq_true rfl) dX8_mayBeginExpr_28 ⟨by decide, by decide⟩ (fun H locs hH => ?_)
      refine lv_if_eq (tgt := 38) hx hb dX8_mayBeginExpr_31 (by decide) (fun hc_7 => ?_) (fun hc_7 => ?_)
      · rw [if_pos hc_7] at hq
        refine lv_iconst (v := 0) hx hb dX8_mayBeginExpr_38 (by decide) ?_
        cases hq
        exact bk_zret C hH (Or.inl rfl) dX8_mayBeginExpr_39
      · rw [if_neg hc_7] at hq
        refine lv_iconst (v := 1) hx hb dX8_mayBeginExpr_34 (by decide) ?_
        refine lv_goto (tgt := 39) hx hb dX8_mayBeginExpr_35 (by decide) ?_
        cases hq
        exact bk_zret C hH (Or.inr rfl) dX8_mayBeginExpr_39
set_option maxRecDepth 100000 in
theorem c_X8_mayBeginExpr {l : Launch} {G : bk_G} {N : Nat} {Y : bk_Lay} {V : bk_Val} {a0 : Nat} {out : Int32} (hq : q_X8_mayBeginExpr N Y V a0 = some out) : Met l yX8_mayBeginExpr (bk_ws yX8_mayBeginExpr cX8_mayBeginExpr 1 (some FieldType.boolean)) rm_X8_mayBeginExpr (bk_Pc G [.ref a0] Y V) (bk_Q G (some (.int out)) Y V) 0 0 (bk_A G) :=
  bk_met (by decide) (Nat.le_of_ble_eq_true rfl) (fun p e s m args below meth c ls C hnm hH hl => w_X8_mayBeginExpr C _ _ _ _ _ _ hl hH hq)

def rm_X8_readAnd (d : Nat) : Room := bk_rm (7 * d + 33) 0 0 (168 * d + 712)
set_option maxRecDepth 100000 in
set_option maxHeartbeats 4000000 in
theorem w_X8_readAnd_13 (C : bk_C G p s m args meth c cX8_readAnd RX8 4 (some FieldType.boolean)) {d : Nat} {rc : bk_Val → Nat → Nat → Int32 → Option (Int32 × bk_Val)} (hrc : ∀ (V : bk_Val) (a0 a1 : Nat) (x2 : Int32) (out : Int32 × bk_Val), rc V a0 a1 x2 = some out → Met l yX8_readExpr (bk_ws yX8_readExpr cX8_readExpr 4 (some FieldType.boolean)) (re_X8 d) (bk_Pc G [.ref a0, .ref a1, .int x2] Y V) (bk_Q G (some (.int out.1)) Y out.2) 0 0 (bk_A G)) : ∀ (n : Nat), ∀ (V : bk_Val) (a0 : Nat) (a1 : Nat) (x2 : Int32) (x3 : Int32) (H : Heap) (locs : List Loc) (ls : Array Slot) (out : Int32 × bk_Val), lv_has ls 4 [(0, .ref a0), (1, .ref a1), (2, .int x2), (3, .int x3)] → bk_H G Y V s.heap H locs → q_X8_readAnd_13 N Y rc n V a0 a1 x2 x3 = some out → W p l e (rm_X8_readAnd d) s m args below meth c H locs 0 0 (MQ below (bk_Q G (some (.int out.1)) Y out.2) args s 0 0 (bk_A G)) (F0 m 13 ls []) := by
  have hx := C.1
  have hb := C.2.1
  intro n
  induction n with
  | zero =>
    intro V a0 a1 x2 x3 H locs ls out hl hH hq
    exact nomatch (show (none : Option (Int32 × bk_Val)) = some out from hq)
  | succ n ih =>
    intro V a0 a1 x2 x3 H locs ls out hl hH hq
    unfold q_X8_readAnd_13 at hq
    refine lv_iload_n hx hb dX8_readAnd_13 rfl (lv_at hl 3 rfl) ?_
    refine lv_sipush (v := 700) hx hb dX8_readAnd_14 (by decide) ?_
    refine lv_icmp_ge (tgt := 62) hx hb dX8_readAnd_17 (by decide) (fun hc_17 => ?_) (fun hc_17 => ?_)
    · rw [if_pos hc_17] at hq
      refine lv_iconst (v := 1) hx hb dX8_readAnd_62 (by decide) ?_
      cases hq
      exact bk_zret C hH (Or.inr rfl) dX8_readAnd_63
    · rw [if_neg hc_17] at hq
      refine lv_aload_n hx hb dX8_readAnd_20 rfl (lv_at hl 0 rfl) ?_
      obtain ⟨hs_1, hq⟩ := bk_ck_some hq
      obtain ⟨b_2, hr_3, hq⟩ := bk_bd_some hq
      refine bk_getr C hH fl_RX8_14 hs_1 rfl hr_3 dX8_readAnd_21 ?_
      refine bk_ldcS C (i := 18) (tx := "and") rfl dX8_readAnd_24 ?_
      obtain ⟨hs_6, hq⟩ := bk_ck_some hq
      obtain ⟨r_5, hr_4, hq⟩ := bk_bd_some hq
      refine bk_callV (rest := []) (As := [.ref (G.2.2.2.1 18)]) (ro := (some (.int r_5))) (Y1 := Y) (V1 := V) C hH hl.1 (c_X9_isWord hr_4) mc_X9_isWord mv_X9_isWord lk_RX8_45 hs_6 rfl rfl ⟨rfl, rfl⟩ ⟨by simp only [bk_rm, rm_X8_readAnd, rm_X9_isWord]; omega, by simp only [bk_rm, rm_X8_readAnd, rm_X9_isWord]; omega⟩ rfl (Nat.le_of_ble_eq_true rfl) dX8_readAnd_26 ⟨Nat.le_refl _, Nat.le_refl _⟩ (fun H locs hH => ?_)
      refine lv_if_eq (tgt := 62) hx hb dX8_readAnd_29 (by decide) (fun hc_16 => ?_) (fun hc_16 => ?_)
      · rw [if_pos hc_16] at hq
        refine lv_iconst (v := 1) hx hb dX8_readAnd_62 (by decide) ?_
        cases hq
        exact bk_zret C hH (Or.inr rfl) dX8_readAnd_63
      · rw [if_neg hc_16] at hq
        refine lv_aload_n hx hb dX8_readAnd_32 rfl (lv_at hl 0 rfl) ?_
        refine bk_getr C hH fl_RX8_14 hs_1 rfl hr_3 dX8_readAnd_33 ?_
        obtain ⟨V_8, hr_7, hq⟩ := bk_bd_some hq
        refine bk_callV (rest := []) (As := []) (ro := none) (Y1 := Y) (V1 := V_8) C hH hl.1 (c_X9_step hr_7) mc_X9_step mv_X9_step lk_RX8_49 hs_6 rfl rfl ⟨rfl, rfl⟩ ⟨by simp only [bk_rm, rm_X8_readAnd, rm_X9_step]; omega, by simp only [bk_rm, rm_X8_readAnd, rm_X9_step]; omega⟩ rfl (Nat.le_of_ble_eq_true rfl) dX8_readAnd_36 ⟨Nat.le_refl _, Nat.le_refl _⟩ (fun H locs hH => ?_)
        refine lv_aload_n hx hb dX8_readAnd_39 rfl (lv_at hl 0 rfl) ?_
        refine lv_aload_n hx hb dX8_readAnd_40 rfl (lv_at hl 1 rfl) ?_
        refine lv_iload_n hx hb dX8_readAnd_41 rfl (lv_at hl 2 rfl) ?_
        obtain ⟨r_10, V_11, hr_9, hq⟩ := bk_bd2_some hq
        refine bk_callV (rest := []) (As := [.ref a1, .int x2]) (ro := (some (.int r_10))) (Y1 := Y) (V1 := V_11) C hH hl.1 (c_X8_readNot hrc hr_9) mc_X8_readNot mv_X8_readNot lk_RX8_238 hs_1 rfl rfl ⟨rfl, rfl⟩ ⟨by simp only [bk_rm, rm_X8_readAnd, rm_X8_readNot]; omega, by simp only [bk_rm, rm_X8_readAnd, rm_X8_readNot]; omega⟩ rfl (Nat.le_of_ble_eq_true rfl) dX8_readAnd_42 ⟨Nat.le_refl _, Nat.le_refl _⟩ (fun H locs hH => ?_)
        refine lv_if_ne (tgt := 50) hx hb dX8_readAnd_45 (by decide) (fun hc_15 => ?_) (fun hc_15 => ?_)
        · rw [if_neg hc_15] at hq
          refine lv_aload_n hx hb dX8_readAnd_50 rfl (lv_at hl 1 rfl) ?_
          refine lv_bipush (v := (-2)) hx hb dX8_readAnd_51 (by decide) ?_
          obtain ⟨hs_14, hq⟩ := bk_ck_some hq
          obtain ⟨V_13, hr_12, hq⟩ := bk_bd_some hq
          refine bk_callV (rest := []) (As := [.int (-2)]) (ro := none) (Y1 := Y) (V1 := V_13) C hH hl.1 (c_X4_put hr_12) mc_X4_put mv_X4_put lk_RX8_235 hs_14 rfl rfl ⟨rfl, rfl⟩ ⟨by simp only [bk_rm, rm_X8_readAnd, rm_X4_put]; omega, by simp only [bk_rm, rm_X8_readAnd, rm_X4_put]; omega⟩ rfl (Nat.le_of_ble_eq_true rfl) dX8_readAnd_53 ⟨Nat.le_refl _, Nat.le_refl _⟩ (fun H locs hH => ?_)
          refine lv_iinc (v := (x3 + 1)) (lv' := [(3, .int (x3 + 1)), (0, .ref a0), (1, .ref a1), (2, .int x2)]) hx hb dX8_readAnd_56 hl (k := 3) rfl rfl (by decide) rfl (fun ls hl => ?_)
          refine lv_goto (tgt := 13) hx hb dX8_readAnd_59 (by decide) ?_
          exact ih _ _ _ _ _ _ _ _ _ (lv_sub hl [1, 2, 3, 0] rfl) hH hq
        · rw [if_pos hc_15] at hq
          refine lv_iconst (v := 0) hx hb dX8_readAnd_48 (by decide) ?_
          cases hq
          exact bk_zret C hH (Or.inl rfl) dX8_readAnd_49

set_option maxRecDepth 100000 in
set_option maxHeartbeats 4000000 in
theorem w_X8_readAnd (C : bk_C G p s m args meth c cX8_readAnd RX8 4 (some FieldType.boolean)) {d : Nat} {rc : bk_Val → Nat → Nat → Int32 → Option (Int32 × bk_Val)} (hrc : ∀ (V : bk_Val) (a0 a1 : Nat) (x2 : Int32) (out : Int32 × bk_Val), rc V a0 a1 x2 = some out → Met l yX8_readExpr (bk_ws yX8_readExpr cX8_readExpr 4 (some FieldType.boolean)) (re_X8 d) (bk_Pc G [.ref a0, .ref a1, .int x2] Y V) (bk_Q G (some (.int out.1)) Y out.2) 0 0 (bk_A G)) : ∀ (V : bk_Val) (a0 : Nat) (a1 : Nat) (x2 : Int32) (H : Heap) (locs : List Loc) (ls : Array Slot) (out : Int32 × bk_Val), lv_has ls 4 [(0, .ref a0), (1, .ref a1), (2, .int x2)] → bk_H G Y V s.heap H locs → q_X8_readAnd N Y rc V a0 a1 x2 = some out → W p l e (rm_X8_readAnd d) s m args below meth c H locs 0 0 (MQ below (bk_Q G (some (.int out.1)) Y out.2) args s 0 0 (bk_A G)) (F0 m 0 ls []) := by
  have hx := C.1
  have hb := C.2.1
  intro V a0 a1 x2 H locs ls out hl hH hq
  unfold q_X8_readAnd at hq
  refine lv_aload_n hx hb dX8_readAnd_0 rfl (lv_at hl 0 rfl) ?_
  refine lv_aload_n hx hb dX8_readAnd_1 rfl (lv_at hl 1 rfl) ?_
  refine lv_iload_n hx hb dX8_readAnd_2 rfl (lv_at hl 2 rfl) ?_
  obtain ⟨hs_21, hq⟩ := bk_ck_some hq
  obtain ⟨r_19, V_20, hr_18, hq⟩ := bk_bd2_some hq
  refine bk_callV (rest := []) (As := [.ref a1, .int x2]) (ro := (some (.int r_19))) (Y1 := Y) (V1 := V_20) C hH hl.1 (c_X8_readNot hrc hr_18) mc_X8_readNot mv_X8_readNot lk_RX8_238 hs_21 rfl rfl ⟨rfl, rfl⟩ ⟨by simp only [bk_rm, rm_X8_readAnd, rm_X8_readNot]; omega, by simp only [bk_rm, rm_X8_readAnd, rm_X8_readNot]; omega⟩ rfl (Nat.le_of_ble_eq_true rfl) dX8_readAnd_3 ⟨Nat.le_refl _, Nat.le_refl _⟩ (fun H locs hH => ?_)
  refine lv_if_ne (tgt := 11) hx hb dX8_readAnd_6 (by decide) (fun hc_22 => ?_) (fun hc_22 => ?_)
  · rw [if_neg hc_22] at hq
    refine lv_iconst (v := 0) hx hb dX8_readAnd_11 (by decide) ?_
    refine lv_istore_n (lv' := [(3, .int 0), (0, .ref a0), (1, .ref a1), (2, .int x2)]) hx hb dX8_readAnd_12 rfl hl (by decide) rfl (fun ls hl => ?_)
    exact w_X8_readAnd_13 C hrc _ _ _ _ _ _ _ _ _ _ (lv_sub hl [1, 2, 3, 0] rfl) hH hq
  · rw [if_pos hc_22] at hq
    refine lv_iconst (v := 0) hx hb dX8_readAnd_9 (by decide) ?_
    cases hq
    exact bk_zret C hH (Or.inl rfl) dX8_readAnd_10
set_option maxRecDepth 100000 in
theorem c_X8_readAnd {l : Launch} {G : bk_G} {N : Nat} {Y : bk_Lay} {V : bk_Val} {d : Nat} {rc : bk_Val → Nat → Nat → Int32 → Option (Int32 × bk_Val)} (hrc : ∀ (V : bk_Val) (a0 a1 : Nat) (x2 : Int32) (out : Int32 × bk_Val), rc V a0 a1 x2 = some out → Met l yX8_readExpr (bk_ws yX8_readExpr cX8_readExpr 4 (some FieldType.boolean)) (re_X8 d) (bk_Pc G [.ref a0, .ref a1, .int x2] Y V) (bk_Q G (some (.int out.1)) Y out.2) 0 0 (bk_A G)) {a0 : Nat} {a1 : Nat} {x2 : Int32} {out : Int32 × bk_Val} (hq : q_X8_readAnd N Y rc V a0 a1 x2 = some out) : Met l yX8_readAnd (bk_ws yX8_readAnd cX8_readAnd 4 (some FieldType.boolean)) (rm_X8_readAnd d) (bk_Pc G [.ref a0, .ref a1, .int x2] Y V) (bk_Q G (some (.int out.1)) Y out.2) 0 0 (bk_A G) :=
  bk_met (by decide) (Nat.le_of_ble_eq_true rfl) (fun p e s m args below meth c ls C hnm hH hl => w_X8_readAnd C hrc _ _ _ _ _ _ _ _ hl hH hq)

def rm_X8_readExpr (d : Nat) : Room := bk_rm (7 * d + 34) 0 0 (168 * d + 736)
set_option maxRecDepth 100000 in
set_option maxHeartbeats 4000000 in
theorem w_X8_readExpr_19 (C : bk_C G p s m args meth c cX8_readExpr RX8 4 (some FieldType.boolean)) {d : Nat} {rc : bk_Val → Nat → Nat → Int32 → Option (Int32 × bk_Val)} (hrc : ∀ (V : bk_Val) (a0 a1 : Nat) (x2 : Int32) (out : Int32 × bk_Val), rc V a0 a1 x2 = some out → Met l yX8_readExpr (bk_ws yX8_readExpr cX8_readExpr 4 (some FieldType.boolean)) (re_X8 d) (bk_Pc G [.ref a0, .ref a1, .int x2] Y V) (bk_Q G (some (.int out.1)) Y out.2) 0 0 (bk_A G)) : ∀ (V : bk_Val) (sa0 : Nat) (sx1 : Int32) (H : Heap) (locs : List Loc) (ls : Array Slot) (out : Int32 × bk_Val), lv_has ls 4 [] → bk_H G Y V s.heap H locs → q_X8_readExpr_19 N Y rc V sa0 sx1 = some out → W p l e (rm_X8_readExpr d) s m args below meth c H locs 0 0 (MQ below (bk_Q G (some (.int out.1)) Y out.2) args s 0 0 (bk_A G)) (F0 m 19 ls [.int sx1, .ref sa0]) := by
  have hx := C.1
  have hb := C.2.1
  intro V sa0 sx1 H locs ls out hl hH hq
  unfold q_X8_readExpr_19 at hq
  obtain ⟨hs_4, hq⟩ := bk_ck_some hq
  obtain ⟨r_2, V_3, hr_1, hq⟩ := bk_bd2_some hq
  refine bk_callV (rest := []) (As := [.int sx1]) (ro := (some (.int r_2))) (Y1 := Y) (V1 := V_3) C hH hl.1 (c_X8_refuse hr_1) mc_X8_refuse mv_X8_refuse lk_RX8_71 hs_4 rfl rfl ⟨rfl, rfl⟩ ⟨by simp only [bk_rm, rm_X8_readExpr, rm_X8_refuse]; omega, by simp only [bk_rm, rm_X8_readExpr, rm_X8_refuse]; omega⟩ rfl (Nat.le_of_ble_eq_true rfl) dX8_readExpr_19 ⟨Nat.le_refl _, Nat.le_refl _⟩ (fun H locs hH => ?_)
  obtain ⟨hz9, hq⟩ := bk_ck_some hq
  cases hq
  exact bk_zret C hH hz9 dX8_readExpr_22

set_option maxRecDepth 100000 in
set_option maxHeartbeats 4000000 in
theorem w_X8_readExpr_36 (C : bk_C G p s m args meth c cX8_readExpr RX8 4 (some FieldType.boolean)) {d : Nat} {rc : bk_Val → Nat → Nat → Int32 → Option (Int32 × bk_Val)} (hrc : ∀ (V : bk_Val) (a0 a1 : Nat) (x2 : Int32) (out : Int32 × bk_Val), rc V a0 a1 x2 = some out → Met l yX8_readExpr (bk_ws yX8_readExpr cX8_readExpr 4 (some FieldType.boolean)) (re_X8 d) (bk_Pc G [.ref a0, .ref a1, .int x2] Y V) (bk_Q G (some (.int out.1)) Y out.2) 0 0 (bk_A G)) : ∀ (n : Nat), ∀ (V : bk_Val) (a0 : Nat) (a1 : Nat) (x2 : Int32) (x3 : Int32) (H : Heap) (locs : List Loc) (ls : Array Slot) (out : Int32 × bk_Val), lv_has ls 4 [(0, .ref a0), (1, .ref a1), (2, .int x2), (3, .int x3)] → bk_H G Y V s.heap H locs → q_X8_readExpr_36 N Y rc n V a0 a1 x2 x3 = some out → W p l e (rm_X8_readExpr d) s m args below meth c H locs 0 0 (MQ below (bk_Q G (some (.int out.1)) Y out.2) args s 0 0 (bk_A G)) (F0 m 36 ls []) := by
  have hx := C.1
  have hb := C.2.1
  intro n
  induction n with
  | zero =>
    intro V a0 a1 x2 x3 H locs ls out hl hH hq
    exact nomatch (show (none : Option (Int32 × bk_Val)) = some out from hq)
  | succ n ih =>
    intro V a0 a1 x2 x3 H locs ls out hl hH hq
    unfold q_X8_readExpr_36 at hq
    refine lv_iload_n hx hb dX8_readExpr_36 rfl (lv_at hl 3 rfl) ?_
    refine lv_sipush (v := 700) hx hb dX8_readExpr_37 (by decide) ?_
    refine lv_icmp_ge (tgt := 84) hx hb dX8_readExpr_40 (by decide) (fun hc_21 => ?_) (fun hc_21 => ?_)
    · rw [if_pos hc_21] at hq
      refine lv_iconst (v := 1) hx hb dX8_readExpr_84 (by decide) ?_
      cases hq
      exact bk_zret C hH (Or.inr rfl) dX8_readExpr_85
    · rw [if_neg hc_21] at hq
      refine lv_aload_n hx hb dX8_readExpr_43 rfl (lv_at hl 0 rfl) ?_
      obtain ⟨hs_5, hq⟩ := bk_ck_some hq
      obtain ⟨b_6, hr_7, hq⟩ := bk_bd_some hq
      refine bk_getr C hH fl_RX8_14 hs_5 rfl hr_7 dX8_readExpr_44 ?_
      refine bk_ldcS C (i := 19) (tx := "or") rfl dX8_readExpr_47 ?_
      obtain ⟨hs_10, hq⟩ := bk_ck_some hq
      obtain ⟨r_9, hr_8, hq⟩ := bk_bd_some hq
      refine bk_callV (rest := []) (As := [.ref (G.2.2.2.1 19)]) (ro := (some (.int r_9))) (Y1 := Y) (V1 := V) C hH hl.1 (c_X9_isWord hr_8) mc_X9_isWord mv_X9_isWord lk_RX8_45 hs_10 rfl rfl ⟨rfl, rfl⟩ ⟨by simp only [bk_rm, rm_X8_readExpr, rm_X9_isWord]; omega, by simp only [bk_rm, rm_X8_readExpr, rm_X9_isWord]; omega⟩ rfl (Nat.le_of_ble_eq_true rfl) dX8_readExpr_49 ⟨Nat.le_refl _, Nat.le_refl _⟩ (fun H locs hH => ?_)
      refine lv_if_eq (tgt := 84) hx hb dX8_readExpr_52 (by decide) (fun hc_20 => ?_) (fun hc_20 => ?_)
      · rw [if_pos hc_20] at hq
        refine lv_iconst (v := 1) hx hb dX8_readExpr_84 (by decide) ?_
        cases hq
        exact bk_zret C hH (Or.inr rfl) dX8_readExpr_85
      · rw [if_neg hc_20] at hq
        refine lv_aload_n hx hb dX8_readExpr_55 rfl (lv_at hl 0 rfl) ?_
        refine bk_getr C hH fl_RX8_14 hs_5 rfl hr_7 dX8_readExpr_56 ?_
        obtain ⟨V_12, hr_11, hq⟩ := bk_bd_some hq
        refine bk_callV (rest := []) (As := []) (ro := none) (Y1 := Y) (V1 := V_12) C hH hl.1 (c_X9_step hr_11) mc_X9_step mv_X9_step lk_RX8_49 hs_10 rfl rfl ⟨rfl, rfl⟩ ⟨by simp only [bk_rm, rm_X8_readExpr, rm_X9_step]; omega, by simp only [bk_rm, rm_X8_readExpr, rm_X9_step]; omega⟩ rfl (Nat.le_of_ble_eq_true rfl) dX8_readExpr_59 ⟨Nat.le_refl _, Nat.le_refl _⟩ (fun H locs hH => ?_)
        refine lv_aload_n hx hb dX8_readExpr_62 rfl (lv_at hl 0 rfl) ?_
        refine lv_aload_n hx hb dX8_readExpr_63 rfl (lv_at hl 1 rfl) ?_
        refine lv_iload_n hx hb dX8_readExpr_64 rfl (lv_at hl 2 rfl) ?_
        obtain ⟨r_14, V_15, hr_13, hq⟩ := bk_bd2_some hq
        refine bk_callV (rest := []) (As := [.ref a1, .int x2]) (ro := (some (.int r_14))) (Y1 := Y) (V1 := V_15) C hH hl.1 (c_X8_readAnd hrc hr_13) mc_X8_readAnd mv_X8_readAnd lk_RX8_228 hs_5 rfl rfl ⟨rfl, rfl⟩ ⟨by simp only [bk_rm, rm_X8_readExpr, rm_X8_readAnd]; omega, by simp only [bk_rm, rm_X8_readExpr, rm_X8_readAnd]; omega⟩ rfl (Nat.le_of_ble_eq_true rfl) dX8_readExpr_65 ⟨Nat.le_refl _, Nat.le_refl _⟩ (fun H locs hH => ?_)
        refine lv_if_ne (tgt := 73) hx hb dX8_readExpr_68 (by decide) (fun hc_19 => ?_) (fun hc_19 => ?_)
        · rw [if_neg hc_19] at hq
          refine lv_aload_n hx hb dX8_readExpr_73 rfl (lv_at hl 1 rfl) ?_
          refine lv_iconst (v := (-1)) hx hb dX8_readExpr_74 (by decide) ?_
          obtain ⟨hs_18, hq⟩ := bk_ck_some hq
          obtain ⟨V_17, hr_16, hq⟩ := bk_bd_some hq
          refine bk_callV (rest := []) (As := [.int (-1)]) (ro := none) (Y1 := Y) (V1 := V_17) C hH hl.1 (c_X4_put hr_16) mc_X4_put mv_X4_put lk_RX8_235 hs_18 rfl rfl ⟨rfl, rfl⟩ ⟨by simp only [bk_rm, rm_X8_readExpr, rm_X4_put]; omega, by simp only [bk_rm, rm_X8_readExpr, rm_X4_put]; omega⟩ rfl (Nat.le_of_ble_eq_true rfl) dX8_readExpr_75 ⟨Nat.le_refl _, Nat.le_refl _⟩ (fun H locs hH => ?_)
          refine lv_iinc (v := (x3 + 1)) (lv' := [(3, .int (x3 + 1)), (0, .ref a0), (1, .ref a1), (2, .int x2)]) hx hb dX8_readExpr_78 hl (k := 3) rfl rfl (by decide) rfl (fun ls hl => ?_)
          refine lv_goto (tgt := 36) hx hb dX8_readExpr_81 (by decide) ?_
          exact ih _ _ _ _ _ _ _ _ _ (lv_sub hl [1, 2, 3, 0] rfl) hH hq
        · rw [if_pos hc_19] at hq
          refine lv_iconst (v := 0) hx hb dX8_readExpr_71 (by decide) ?_
          cases hq
          exact bk_zret C hH (Or.inl rfl) dX8_readExpr_72

set_option maxRecDepth 100000 in
set_option maxHeartbeats 4000000 in
theorem w_X8_readExpr (C : bk_C G p s m args meth c cX8_readExpr RX8 4 (some FieldType.boolean)) {d : Nat} {rc : bk_Val → Nat → Nat → Int32 → Option (Int32 × bk_Val)} (hrc : ∀ (V : bk_Val) (a0 a1 : Nat) (x2 : Int32) (out : Int32 × bk_Val), rc V a0 a1 x2 = some out → Met l yX8_readExpr (bk_ws yX8_readExpr cX8_readExpr 4 (some FieldType.boolean)) (re_X8 d) (bk_Pc G [.ref a0, .ref a1, .int x2] Y V) (bk_Q G (some (.int out.1)) Y out.2) 0 0 (bk_A G)) : ∀ (V : bk_Val) (a0 : Nat) (a1 : Nat) (x2 : Int32) (H : Heap) (locs : List Loc) (ls : Array Slot) (out : Int32 × bk_Val), lv_has ls 4 [(0, .ref a0), (1, .ref a1), (2, .int x2)] → bk_H G Y V s.heap H locs → q_X8_readExprF N Y rc V a0 a1 x2 = some out → W p l e (rm_X8_readExpr d) s m args below meth c H locs 0 0 (MQ below (bk_Q G (some (.int out.1)) Y out.2) args s 0 0 (bk_A G)) (F0 m 0 ls []) := by
  have hx := C.1
  have hb := C.2.1
  intro V a0 a1 x2 H locs ls out hl hH hq
  unfold q_X8_readExprF at hq
  refine lv_iload_n hx hb dX8_readExpr_0 rfl (lv_at hl 2 rfl) ?_
  refine lv_bipush (v := 6) hx hb dX8_readExpr_1 (by decide) ?_
  refine lv_icmp_lt (tgt := 23) hx hb dX8_readExpr_3 (by decide) (fun hc_31 => ?_) (fun hc_31 => ?_)
  · rw [if_pos hc_31] at hq
    refine lv_aload_n hx hb dX8_readExpr_23 rfl (lv_at hl 0 rfl) ?_
    refine lv_aload_n hx hb dX8_readExpr_24 rfl (lv_at hl 1 rfl) ?_
    refine lv_iload_n hx hb dX8_readExpr_25 rfl (lv_at hl 2 rfl) ?_
    obtain ⟨hs_25, hq⟩ := bk_ck_some hq
    obtain ⟨r_23, V_24, hr_22, hq⟩ := bk_bd2_some hq
    refine bk_callV (rest := []) (As := [.ref a1, .int x2]) (ro := (some (.int r_23))) (Y1 := Y) (V1 := V_24) C hH hl.1 (c_X8_readAnd hrc hr_22) mc_X8_readAnd mv_X8_readAnd lk_RX8_228 hs_25 rfl rfl ⟨rfl, rfl⟩ ⟨by simp only [bk_rm, rm_X8_readExpr, rm_X8_readAnd]; omega, by simp only [bk_rm, rm_X8_readExpr, rm_X8_readAnd]; omega⟩ rfl (Nat.le_of_ble_eq_true rfl) dX8_readExpr_26 ⟨Nat.le_refl _, Nat.le_refl _⟩ (fun H locs hH => ?_)
    refine lv_if_ne (tgt := 34) hx hb dX8_readExpr_29 (by decide) (fun hc_26 => ?_) (fun hc_26 => ?_)
    · rw [if_neg hc_26] at hq
      refine lv_iconst (v := 0) hx hb dX8_readExpr_34 (by decide) ?_
      refine lv_istore_n (lv' := [(3, .int 0), (0, .ref a0), (1, .ref a1), (2, .int x2)]) hx hb dX8_readExpr_35 rfl hl (by decide) rfl (fun ls hl => ?_)
      exact w_X8_readExpr_36 C hrc _ _ _ _ _ _ _ _ _ _ (lv_sub hl [1, 2, 3, 0] rfl) hH hq
    · rw [if_pos hc_26] at hq
      refine lv_iconst (v := 0) hx hb dX8_readExpr_32 (by decide) ?_
      cases hq
      exact bk_zret C hH (Or.inl rfl) dX8_readExpr_33
  · rw [if_neg hc_31] at hq
    refine lv_aload_n hx hb dX8_readExpr_6 rfl (lv_at hl 0 rfl) ?_
    refine lv_aload_n hx hb dX8_readExpr_7 rfl (lv_at hl 0 rfl) ?_
    obtain ⟨hs_29, hq⟩ := bk_ck_some hq
    obtain ⟨r_28, hr_27, hq⟩ := bk_bd_some hq
    refine bk_callV (rest := [.ref a0]) (As := []) (ro := (some (.int r_28))) (Y1 := Y) (V1 := V) C hH hl.1 (c_X8_mayBeginExpr hr_27) mc_X8_mayBeginExpr mv_X8_mayBeginExpr lk_RX8_225 hs_29 rfl rfl ⟨rfl, rfl⟩ ⟨by simp only [bk_rm, rm_X8_readExpr, rm_X8_mayBeginExpr]; omega, by simp only [bk_rm, rm_X8_readExpr, rm_X8_mayBeginExpr]; omega⟩ rfl (Nat.le_of_ble_eq_true rfl) dX8_readExpr_8 ⟨Nat.le_refl _, Nat.le_refl _⟩ (fun H locs hH => ?_)
    refine lv_if_eq (tgt := 18) hx hb dX8_readExpr_11 (by decide) (fun hc_30 => ?_) (fun hc_30 => ?_)
    · rw [if_pos hc_30] at hq
      refine lv_iconst (v := 1) hx hb dX8_readExpr_18 (by decide) ?_
      exact w_X8_readExpr_19 C hrc _ _ _ _ _ _ _ (lv_sub hl [] rfl) hH hq
    · rw [if_neg hc_30] at hq
      refine lv_iconst (v := 2) hx hb dX8_readExpr_14 (by decide) ?_
      refine lv_goto (tgt := 19) hx hb dX8_readExpr_15 (by decide) ?_
      exact w_X8_readExpr_19 C hrc _ _ _ _ _ _ _ (lv_sub hl [] rfl) hH hq
set_option maxRecDepth 100000 in
theorem c_X8_readExprF {l : Launch} {G : bk_G} {N : Nat} {Y : bk_Lay} {V : bk_Val} {d : Nat} {rc : bk_Val → Nat → Nat → Int32 → Option (Int32 × bk_Val)} (hrc : ∀ (V : bk_Val) (a0 a1 : Nat) (x2 : Int32) (out : Int32 × bk_Val), rc V a0 a1 x2 = some out → Met l yX8_readExpr (bk_ws yX8_readExpr cX8_readExpr 4 (some FieldType.boolean)) (re_X8 d) (bk_Pc G [.ref a0, .ref a1, .int x2] Y V) (bk_Q G (some (.int out.1)) Y out.2) 0 0 (bk_A G)) {a0 : Nat} {a1 : Nat} {x2 : Int32} {out : Int32 × bk_Val} (hq : q_X8_readExprF N Y rc V a0 a1 x2 = some out) : Met l yX8_readExpr (bk_ws yX8_readExpr cX8_readExpr 4 (some FieldType.boolean)) (rm_X8_readExpr d) (bk_Pc G [.ref a0, .ref a1, .int x2] Y V) (bk_Q G (some (.int out.1)) Y out.2) 0 0 (bk_A G) :=
  bk_met (by decide) (Nat.le_of_ble_eq_true rfl) (fun p e s m args below meth c ls C hnm hH hl => w_X8_readExpr C hrc _ _ _ _ _ _ _ _ hl hH hq)
theorem c_X8_readExprR {l : Launch} {G : bk_G} {N : Nat} {Y : bk_Lay} : ∀ (d : Nat) (V : bk_Val) (a0 a1 : Nat) (x2 : Int32) (out : Int32 × bk_Val), q_X8_readExprR N Y d V a0 a1 x2 = some out → Met l yX8_readExpr (bk_ws yX8_readExpr cX8_readExpr 4 (some FieldType.boolean)) (re_X8 d) (bk_Pc G [.ref a0, .ref a1, .int x2] Y V) (bk_Q G (some (.int out.1)) Y out.2) 0 0 (bk_A G) := by
  intro d
  induction d with
  | zero => intro V a0 a1 x2 out hq; exact nomatch (show (none : Option (Int32 × bk_Val)) = some out from hq)
  | succ d ih =>
    intro V a0 a1 x2 out hq
    have h := c_X8_readExprF (d := d) (rc := q_X8_readExprR N Y d) ih (show q_X8_readExprF N Y (q_X8_readExprR N Y d) V a0 a1 x2 = some out from hq)
    have e : rm_X8_readExpr d = re_X8 (d + 1) := by
      show bk_rm _ _ _ _ = bk_rm _ _ _ _
      congr 1 <;> omega
    rw [e] at h
    exact h
theorem c_X8_readExpr {l : Launch} {G : bk_G} {N : Nat} {Y : bk_Lay} {V : bk_Val} {a0 a1 : Nat} {x2 : Int32} {out : Int32 × bk_Val} (hq : q_X8_readExpr N Y V a0 a1 x2 = some out) : Met l yX8_readExpr (bk_ws yX8_readExpr cX8_readExpr 4 (some FieldType.boolean)) (re_X8 8) (bk_Pc G [.ref a0, .ref a1, .int x2] Y V) (bk_Q G (some (.int out.1)) Y out.2) 0 0 (bk_A G) := c_X8_readExprR 8 _ _ _ _ _ hq

def rm_X8_sideNamed : Room := bk_rm 6 0 0 172
set_option maxRecDepth 100000 in
set_option maxHeartbeats 4000000 in
theorem w_X8_sideNamed (C : bk_C G p s m args meth c cX8_sideNamed RX8 1 (some FieldType.int)) : ∀ (V : bk_Val) (a0 : Nat) (H : Heap) (locs : List Loc) (ls : Array Slot) (out : Int32), lv_has ls 1 [(0, .ref a0)] → bk_H G Y V s.heap H locs → q_X8_sideNamed N Y V a0 = some out → W p l e rm_X8_sideNamed s m args below meth c H locs 0 0 (MQ below (bk_Q G (some (.int out)) Y V) args s 0 0 (bk_A G)) (F0 m 0 ls []) := by
  have hx := C.1
  have hb := C.2.1
  intro V a0 H locs ls out hl hH hq
  unfold q_X8_sideNamed at hq
  refine lv_aload_n hx hb dX8_sideNamed_0 rfl (lv_at hl 0 rfl) ?_
  obtain ⟨hs_1, hq⟩ := bk_ck_some hq
  obtain ⟨b_2, hr_3, hq⟩ := bk_bd_some hq
  refine bk_getr C hH fl_RX8_14 hs_1 rfl hr_3 dX8_sideNamed_1 ?_
  refine bk_ldcS C (i := 22) (tx := "outer") rfl dX8_sideNamed_4 ?_
  obtain ⟨hs_6, hq⟩ := bk_ck_some hq
  obtain ⟨r_5, hr_4, hq⟩ := bk_bd_some hq
  refine bk_callV (rest := []) (As := [.ref (G.2.2.2.1 22)]) (ro := (some (.int r_5))) (Y1 := Y) (V1 := V) C hH hl.1 (c_X9_isWord hr_4) mc_X9_isWord mv_X9_isWord lk_RX8_45 hs_6 rfl rfl ⟨rfl, rfl⟩ ⟨by decide, by decide⟩ rfl (Nat.le_of_ble_eq_true rfl) dX8_sideNamed_6 ⟨by decide, by decide⟩ (fun H locs hH => ?_)
  refine lv_if_eq (tgt := 14) hx hb dX8_sideNamed_9 (by decide) (fun hc_16 => ?_) (fun hc_16 => ?_)
  · rw [if_pos hc_16] at hq
    refine lv_aload_n hx hb dX8_sideNamed_14 rfl (lv_at hl 0 rfl) ?_
    refine bk_getr C hH fl_RX8_14 hs_1 rfl hr_3 dX8_sideNamed_15 ?_
    refine bk_ldcS C (i := 23) (tx := "left") rfl dX8_sideNamed_18 ?_
    obtain ⟨r_8, hr_7, hq⟩ := bk_bd_some hq
    refine bk_callV (rest := []) (As := [.ref (G.2.2.2.1 23)]) (ro := (some (.int r_8))) (Y1 := Y) (V1 := V) C hH hl.1 (c_X9_isWord hr_7) mc_X9_isWord mv_X9_isWord lk_RX8_45 hs_6 rfl rfl ⟨rfl, rfl⟩ ⟨by decide, by decide⟩ rfl (Nat.le_of_ble_eq_true rfl) dX8_sideNamed_20 ⟨by decide, by decide⟩ (fun H locs hH => ?_)
    refine lv_if_eq (tgt := 28) hx hb dX8_sideNamed_23 (by decide) (fun hc_15 => ?_) (fun hc_15 => ?_)
    · rw [if_pos hc_15] at hq
      refine lv_aload_n hx hb dX8_sideNamed_28 rfl (lv_at hl 0 rfl) ?_
      refine bk_getr C hH fl_RX8_14 hs_1 rfl hr_3 dX8_sideNamed_29 ?_
      refine bk_ldcS C (i := 24) (tx := "right") rfl dX8_sideNamed_32 ?_
      obtain ⟨r_10, hr_9, hq⟩ := bk_bd_some hq
      refine bk_callV (rest := []) (As := [.ref (G.2.2.2.1 24)]) (ro := (some (.int r_10))) (Y1 := Y) (V1 := V) C hH hl.1 (c_X9_isWord hr_9) mc_X9_isWord mv_X9_isWord lk_RX8_45 hs_6 rfl rfl ⟨rfl, rfl⟩ ⟨by decide, by decide⟩ rfl (Nat.le_of_ble_eq_true rfl) dX8_sideNamed_34 ⟨by decide, by decide⟩ (fun H locs hH => ?_)
      refine lv_if_eq (tgt := 42) hx hb dX8_sideNamed_37 (by decide) (fun hc_14 => ?_) (fun hc_14 => ?_)
      · rw [if_pos hc_14] at hq
        refine lv_aload_n hx hb dX8_sideNamed_42 rfl (lv_at hl 0 rfl) ?_
        refine bk_getr C hH fl_RX8_14 hs_1 rfl hr_3 dX8_sideNamed_43 ?_
        refine bk_ldcS C (i := 25) (tx := "rim") rfl dX8_sideNamed_46 ?_
        obtain ⟨r_12, hr_11, hq⟩ := bk_bd_some hq
        refine bk_callV (rest := []) (As := [.ref (G.2.2.2.1 25)]) (ro := (some (.int r_12))) (Y1 := Y) (V1 := V) C hH hl.1 (c_X9_isWord hr_11) mc_X9_isWord mv_X9_isWord lk_RX8_45 hs_6 rfl rfl ⟨rfl, rfl⟩ ⟨by decide, by decide⟩ rfl (Nat.le_of_ble_eq_true rfl) dX8_sideNamed_48 ⟨by decide, by decide⟩ (fun H locs hH => ?_)
        refine lv_if_eq (tgt := 58) hx hb dX8_sideNamed_51 (by decide) (fun hc_13 => ?_) (fun hc_13 => ?_)
        · rw [if_pos hc_13] at hq
          refine lv_iconst (v := (-1)) hx hb dX8_sideNamed_58 (by decide) ?_
          cases hq
          exact bk_iret C hH dX8_sideNamed_59
        · rw [if_neg hc_13] at hq
          refine lv_iconst (v := 3) hx hb dX8_sideNamed_54 (by decide) ?_
          refine lv_goto (tgt := 59) hx hb dX8_sideNamed_55 (by decide) ?_
          cases hq
          exact bk_iret C hH dX8_sideNamed_59
      · rw [if_neg hc_14] at hq
        refine lv_iconst (v := 2) hx hb dX8_sideNamed_40 (by decide) ?_
        cases hq
        exact bk_iret C hH dX8_sideNamed_41
    · rw [if_neg hc_15] at hq
      refine lv_iconst (v := 1) hx hb dX8_sideNamed_26 (by decide) ?_
      cases hq
      exact bk_iret C hH dX8_sideNamed_27
  · rw [if_neg hc_16] at hq
    refine lv_iconst (v := 0) hx hb dX8_sideNamed_12 (by decide) ?_
    cases hq
    exact bk_iret C hH dX8_sideNamed_13
set_option maxRecDepth 100000 in
theorem c_X8_sideNamed {l : Launch} {G : bk_G} {N : Nat} {Y : bk_Lay} {V : bk_Val} {a0 : Nat} {out : Int32} (hq : q_X8_sideNamed N Y V a0 = some out) : Met l yX8_sideNamed (bk_ws yX8_sideNamed cX8_sideNamed 1 (some FieldType.int)) rm_X8_sideNamed (bk_Pc G [.ref a0] Y V) (bk_Q G (some (.int out)) Y V) 0 0 (bk_A G) :=
  bk_met (by decide) (Nat.le_of_ble_eq_true rfl) (fun p e s m args below meth c ls C hnm hH hl => w_X8_sideNamed C _ _ _ _ _ _ hl hH hq)

def rm_X1_isAt : Room := bk_rm 0 0 0 0
set_option maxRecDepth 100000 in
set_option maxHeartbeats 4000000 in
theorem w_X1_isAt_32 (C : bk_C G p s m args meth c cX1_isAt RX1 4 (some FieldType.boolean)) (k2 : bk_Val → Nat → Int32 → Int32 → Int32 → Option (Int32)) (i2 : ∀ (V : bk_Val) (a0 : Nat) (x1 : Int32) (x2 : Int32) (x3 : Int32) (H : Heap) (locs : List Loc) (ls : Array Slot) (out : Int32), lv_has ls 4 [(0, .ref a0), (1, .int x1), (2, .int x2), (3, .int x3)] → bk_H G Y V s.heap H locs → k2 V a0 x1 x2 x3 = some out → W p l e rm_X1_isAt s m args below meth c H locs 0 0 (MQ below (bk_Q G (some (.int out)) Y V) args s 0 0 (bk_A G)) (F0 m 2 ls [])) : ∀ (V : bk_Val) (a0 : Nat) (x1 : Int32) (x2 : Int32) (x3 : Int32) (H : Heap) (locs : List Loc) (ls : Array Slot) (out : Int32), lv_has ls 4 [(0, .ref a0), (1, .int x1), (2, .int x2), (3, .int x3)] → bk_H G Y V s.heap H locs → q_X1_isAt_32 N Y k2 V a0 x1 x2 x3 = some out → W p l e rm_X1_isAt s m args below meth c H locs 0 0 (MQ below (bk_Q G (some (.int out)) Y V) args s 0 0 (bk_A G)) (F0 m 32 ls []) := by
  have hx := C.1
  have hb := C.2.1
  intro V a0 x1 x2 x3 H locs ls out hl hH hq
  unfold q_X1_isAt_32 at hq
  refine lv_iinc (v := (x3 + 1)) (lv' := [(3, .int (x3 + 1)), (0, .ref a0), (1, .int x1), (2, .int x2)]) hx hb dX1_isAt_32 hl (k := 3) rfl rfl (by decide) rfl (fun ls hl => ?_)
  refine lv_goto (tgt := 2) hx hb dX1_isAt_35 (by decide) ?_
  exact i2 _ _ _ _ _ _ _ _ _ (lv_sub hl [1, 2, 3, 0] rfl) hH hq

set_option maxRecDepth 100000 in
set_option maxHeartbeats 4000000 in
theorem w_X1_isAt_2 (C : bk_C G p s m args meth c cX1_isAt RX1 4 (some FieldType.boolean)) : ∀ (n : Nat), ∀ (V : bk_Val) (a0 : Nat) (x1 : Int32) (x2 : Int32) (x3 : Int32) (H : Heap) (locs : List Loc) (ls : Array Slot) (out : Int32), lv_has ls 4 [(0, .ref a0), (1, .int x1), (2, .int x2), (3, .int x3)] → bk_H G Y V s.heap H locs → q_X1_isAt_2 N Y n V a0 x1 x2 x3 = some out → W p l e rm_X1_isAt s m args below meth c H locs 0 0 (MQ below (bk_Q G (some (.int out)) Y V) args s 0 0 (bk_A G)) (F0 m 2 ls []) := by
  have hx := C.1
  have hb := C.2.1
  intro n
  induction n with
  | zero =>
    intro V a0 x1 x2 x3 H locs ls out hl hH hq
    exact nomatch (show (none : Option (Int32)) = some out from hq)
  | succ n ih =>
    intro V a0 x1 x2 x3 H locs ls out hl hH hq
    unfold q_X1_isAt_2 at hq
    refine lv_iload_n hx hb dX1_isAt_2 rfl (lv_at hl 3 rfl) ?_
    refine lv_aload_n hx hb dX1_isAt_3 rfl (lv_at hl 0 rfl) ?_
    obtain ⟨hs_1, hq⟩ := bk_ck_some hq
    refine bk_geti C hH fl_RX1_21 hs_1 rfl dX1_isAt_4 ?_
    refine lv_icmp_ge (tgt := 38) hx hb dX1_isAt_7 (by decide) (fun hc_12 => ?_) (fun hc_12 => ?_)
    · rw [if_pos hc_12] at hq
      refine lv_iconst (v := 0) hx hb dX1_isAt_38 (by decide) ?_
      cases hq
      exact bk_zret C hH (Or.inl rfl) dX1_isAt_39
    · rw [if_neg hc_12] at hq
      refine lv_aload_n hx hb dX1_isAt_10 rfl (lv_at hl 0 rfl) ?_
      obtain ⟨b_2, hr_3, hq⟩ := bk_bd_some hq
      refine bk_getr C hH fl_RX1_9 hs_1 rfl hr_3 dX1_isAt_11 ?_
      refine lv_iload_n hx hb dX1_isAt_14 rfl (lv_at hl 3 rfl) ?_
      obtain ⟨ha_4, hq⟩ := bk_ck_some hq
      obtain ⟨hi_5, hq⟩ := bk_ck_some hq
      refine bk_iald C hH (bk_arr ha_4) (bk_in_vp hi_5) dX1_isAt_15 ?_
      refine lv_iload_n hx hb dX1_isAt_16 rfl (lv_at hl 1 rfl) ?_
      refine lv_icmp_ne (tgt := 32) hx hb dX1_isAt_17 (by decide) (fun hc_11 => ?_) (fun hc_11 => ?_)
      · rw [if_neg hc_11] at hq
        exact w_X1_isAt_32 C _ ih _ _ _ _ _ _ _ _ _ (lv_sub hl [0, 1, 2, 3] rfl) hH hq
      · rw [if_pos hc_11] at hq
        refine lv_aload_n hx hb dX1_isAt_20 rfl (lv_at hl 0 rfl) ?_
        obtain ⟨b_6, hr_7, hq⟩ := bk_bd_some hq
        refine bk_getr C hH fl_RX1_15 hs_1 rfl hr_7 dX1_isAt_21 ?_
        refine lv_iload_n hx hb dX1_isAt_24 rfl (lv_at hl 3 rfl) ?_
        obtain ⟨ha_8, hq⟩ := bk_ck_some hq
        obtain ⟨hi_9, hq⟩ := bk_ck_some hq
        refine bk_iald C hH (bk_arr ha_8) (bk_in_vp hi_9) dX1_isAt_25 ?_
        refine lv_iload_n hx hb dX1_isAt_26 rfl (lv_at hl 2 rfl) ?_
        refine lv_icmp_ne (tgt := 32) hx hb dX1_isAt_27 (by decide) (fun hc_10 => ?_) (fun hc_10 => ?_)
        · rw [if_neg hc_10] at hq
          exact w_X1_isAt_32 C _ ih _ _ _ _ _ _ _ _ _ (lv_sub hl [0, 1, 2, 3] rfl) hH hq
        · rw [if_pos hc_10] at hq
          refine lv_iconst (v := 1) hx hb dX1_isAt_30 (by decide) ?_
          cases hq
          exact bk_zret C hH (Or.inr rfl) dX1_isAt_31

set_option maxRecDepth 100000 in
set_option maxHeartbeats 4000000 in
theorem w_X1_isAt (C : bk_C G p s m args meth c cX1_isAt RX1 4 (some FieldType.boolean)) : ∀ (V : bk_Val) (a0 : Nat) (x1 : Int32) (x2 : Int32) (H : Heap) (locs : List Loc) (ls : Array Slot) (out : Int32), lv_has ls 4 [(0, .ref a0), (1, .int x1), (2, .int x2)] → bk_H G Y V s.heap H locs → q_X1_isAt N Y V a0 x1 x2 = some out → W p l e rm_X1_isAt s m args below meth c H locs 0 0 (MQ below (bk_Q G (some (.int out)) Y V) args s 0 0 (bk_A G)) (F0 m 0 ls []) := by
  have hx := C.1
  have hb := C.2.1
  intro V a0 x1 x2 H locs ls out hl hH hq
  unfold q_X1_isAt at hq
  refine lv_iconst (v := 0) hx hb dX1_isAt_0 (by decide) ?_
  refine lv_istore_n (lv' := [(3, .int 0), (0, .ref a0), (1, .int x1), (2, .int x2)]) hx hb dX1_isAt_1 rfl hl (by decide) rfl (fun ls hl => ?_)
  exact w_X1_isAt_2 C _ _ _ _ _ _ _ _ _ _ (lv_sub hl [1, 2, 3, 0] rfl) hH hq
set_option maxRecDepth 100000 in
theorem c_X1_isAt {l : Launch} {G : bk_G} {N : Nat} {Y : bk_Lay} {V : bk_Val} {a0 : Nat} {x1 : Int32} {x2 : Int32} {out : Int32} (hq : q_X1_isAt N Y V a0 x1 x2 = some out) : Met l yX1_isAt (bk_ws yX1_isAt cX1_isAt 4 (some FieldType.boolean)) rm_X1_isAt (bk_Pc G [.ref a0, .int x1, .int x2] Y V) (bk_Q G (some (.int out)) Y V) 0 0 (bk_A G) :=
  bk_met (by decide) (Nat.le_of_ble_eq_true rfl) (fun p e s m args below meth c ls C hnm hH hl => w_X1_isAt C _ _ _ _ _ _ _ _ hl hH hq)

def rm_X1_add : Room := bk_rm 0 0 0 0
set_option maxRecDepth 100000 in
set_option maxHeartbeats 4000000 in
theorem w_X1_add_72 (C : bk_C G p s m args meth c cX1_add RX1 5 (none : Option FieldType)) : ∀ (V : bk_Val) (a0 : Nat) (sa0 : Nat) (sx1 : Int32) (H : Heap) (locs : List Loc) (ls : Array Slot) (out : bk_Val), lv_has ls 5 [(0, .ref a0)] → bk_H G Y V s.heap H locs → q_X1_add_72 N Y V a0 sa0 sx1 = some out → W p l e rm_X1_add s m args below meth c H locs 0 0 (MQ below (bk_Q G none Y out) args s 0 0 (bk_A G)) (F0 m 72 ls [.int sx1, .ref sa0]) := by
  have hx := C.1
  have hb := C.2.1
  intro V a0 sa0 sx1 H locs ls out hl hH hq
  unfold q_X1_add_72 at hq
  obtain ⟨hs_1, hq⟩ := bk_ck_some hq
  refine bk_puti C hH fp_RX1_25 (fun h => by cases h) hs_1 rfl dX1_add_72 (fun V_2 H locs e_3 hH => ?_)
  have hq := bk_let_eq e_3 hq
  refine lv_aload_n hx hb dX1_add_75 rfl (lv_at hl 0 rfl) ?_
  refine lv_dup hx hb dX1_add_76 rfl ?_
  obtain ⟨hs_4, hq⟩ := bk_ck_some hq
  refine bk_geti C hH fl_RX1_21 hs_4 rfl dX1_add_77 ?_
  refine lv_iconst (v := 1) hx hb dX1_add_80 (by decide) ?_
  refine lv_iadd hx hb dX1_add_81 ?_
  refine bk_puti C hH fp_RX1_21 (fun h => by cases h) hs_4 rfl dX1_add_82 (fun V_5 H locs e_6 hH => ?_)
  have hq := bk_let_eq e_6 hq
  cases hq
  exact bk_vret C hH dX1_add_85

set_option maxRecDepth 100000 in
set_option maxHeartbeats 4000000 in
theorem w_X1_add (C : bk_C G p s m args meth c cX1_add RX1 5 (none : Option FieldType)) : ∀ (V : bk_Val) (a0 : Nat) (x1 : Int32) (x2 : Int32) (x3 : Int32) (x4 : Int32) (H : Heap) (locs : List Loc) (ls : Array Slot) (out : bk_Val), lv_has ls 5 [(0, .ref a0), (1, .int x1), (2, .int x2), (3, .int x3), (4, .int x4)] → bk_H G Y V s.heap H locs → q_X1_add N Y V a0 x1 x2 x3 x4 = some out → W p l e rm_X1_add s m args below meth c H locs 0 0 (MQ below (bk_Q G none Y out) args s 0 0 (bk_A G)) (F0 m 0 ls []) := by
  have hx := C.1
  have hb := C.2.1
  intro V a0 x1 x2 x3 x4 H locs ls out hl hH hq
  unfold q_X1_add at hq
  refine lv_aload_n hx hb dX1_add_0 rfl (lv_at hl 0 rfl) ?_
  obtain ⟨hs_7, hq⟩ := bk_ck_some hq
  refine bk_geti C hH fl_RX1_21 hs_7 rfl dX1_add_1 ?_
  refine lv_bipush (v := 6) hx hb dX1_add_4 (by decide) ?_
  refine lv_icmp_ge (tgt := 85) hx hb dX1_add_6 (by decide) (fun hc_27 => ?_) (fun hc_27 => ?_)
  · rw [if_pos hc_27] at hq
    cases hq
    exact bk_vret C hH dX1_add_85
  · rw [if_neg hc_27] at hq
    refine lv_aload_n hx hb dX1_add_9 rfl (lv_at hl 0 rfl) ?_
    obtain ⟨b_8, hr_9, hq⟩ := bk_bd_some hq
    refine bk_getr C hH fl_RX1_9 hs_7 rfl hr_9 dX1_add_10 ?_
    refine lv_aload_n hx hb dX1_add_13 rfl (lv_at hl 0 rfl) ?_
    refine bk_geti C hH fl_RX1_21 hs_7 rfl dX1_add_14 ?_
    refine lv_iload_n hx hb dX1_add_17 rfl (lv_at hl 1 rfl) ?_
    obtain ⟨ha_10, hq⟩ := bk_ck_some hq
    obtain ⟨hi_11, hq⟩ := bk_ck_some hq
    refine bk_iast C hH (bk_arr ha_10) (bk_in_vp hi_11) dX1_add_18 (fun V_12 H locs e_13 hH => ?_)
    have hq := bk_let_eq e_13 hq
    refine lv_aload_n hx hb dX1_add_19 rfl (lv_at hl 0 rfl) ?_
    obtain ⟨b_14, hr_15, hq⟩ := bk_bd_some hq
    refine bk_getr C hH fl_RX1_15 hs_7 rfl hr_15 dX1_add_20 ?_
    refine lv_aload_n hx hb dX1_add_23 rfl (lv_at hl 0 rfl) ?_
    refine bk_geti C hH fl_RX1_21 hs_7 rfl dX1_add_24 ?_
    refine lv_iload_n hx hb dX1_add_27 rfl (lv_at hl 2 rfl) ?_
    obtain ⟨ha_16, hq⟩ := bk_ck_some hq
    obtain ⟨hi_17, hq⟩ := bk_ck_some hq
    refine bk_iast C hH (bk_arr ha_16) (bk_in_vp hi_17) dX1_add_28 (fun V_18 H locs e_19 hH => ?_)
    have hq := bk_let_eq e_19 hq
    refine lv_aload_n hx hb dX1_add_29 rfl (lv_at hl 0 rfl) ?_
    obtain ⟨b_20, hr_21, hq⟩ := bk_bd_some hq
    refine bk_getr C hH fl_RX1_18 hs_7 rfl hr_21 dX1_add_30 ?_
    refine lv_aload_n hx hb dX1_add_33 rfl (lv_at hl 0 rfl) ?_
    refine bk_geti C hH fl_RX1_21 hs_7 rfl dX1_add_34 ?_
    refine lv_iload_n hx hb dX1_add_37 rfl (lv_at hl 3 rfl) ?_
    obtain ⟨ha_22, hq⟩ := bk_ck_some hq
    obtain ⟨hi_23, hq⟩ := bk_ck_some hq
    refine bk_iast C hH (bk_arr ha_22) (bk_in_vp hi_23) dX1_add_38 (fun V_24 H locs e_25 hH => ?_)
    have hq := bk_let_eq e_25 hq
    refine lv_aload_n hx hb dX1_add_39 rfl (lv_at hl 0 rfl) ?_
    refine lv_iload hx hb dX1_add_40 (lv_at hl 4 rfl) ?_
    refine lv_if_eq (tgt := 59) hx hb dX1_add_42 (by decide) (fun hc_26 => ?_) (fun hc_26 => ?_)
    · rw [if_pos hc_26] at hq
      refine lv_aload_n hx hb dX1_add_59 rfl (lv_at hl 0 rfl) ?_
      refine bk_geti C hH fl_RX1_25 hs_7 rfl dX1_add_60 ?_
      refine lv_iconst (v := 1) hx hb dX1_add_63 (by decide) ?_
      refine lv_aload_n hx hb dX1_add_64 rfl (lv_at hl 0 rfl) ?_
      refine bk_geti C hH fl_RX1_21 hs_7 rfl dX1_add_65 ?_
      refine bk_ishl hx hb dX1_add_68 ?_
      refine lv_iconst (v := (-1)) hx hb dX1_add_69 (by decide) ?_
      refine lv_ixor hx hb dX1_add_70 ?_
      refine lv_iand hx hb dX1_add_71 ?_
      exact w_X1_add_72 C _ _ _ _ _ _ _ _ (lv_sub hl [0] rfl) hH hq
    · rw [if_neg hc_26] at hq
      refine lv_aload_n hx hb dX1_add_45 rfl (lv_at hl 0 rfl) ?_
      refine bk_geti C hH fl_RX1_25 hs_7 rfl dX1_add_46 ?_
      refine lv_iconst (v := 1) hx hb dX1_add_49 (by decide) ?_
      refine lv_aload_n hx hb dX1_add_50 rfl (lv_at hl 0 rfl) ?_
      refine bk_geti C hH fl_RX1_21 hs_7 rfl dX1_add_51 ?_
      refine bk_ishl hx hb dX1_add_54 ?_
      refine lv_ior hx hb dX1_add_55 ?_
      refine lv_goto (tgt := 72) hx hb dX1_add_56 (by decide) ?_
      exact w_X1_add_72 C _ _ _ _ _ _ _ _ (lv_sub hl [0] rfl) hH hq
set_option maxRecDepth 100000 in
theorem c_X1_add {l : Launch} {G : bk_G} {N : Nat} {Y : bk_Lay} {V : bk_Val} {a0 : Nat} {x1 : Int32} {x2 : Int32} {x3 : Int32} {x4 : Int32} {out : bk_Val} (hq : q_X1_add N Y V a0 x1 x2 x3 x4 = some out) : Met l yX1_add (bk_ws yX1_add cX1_add 5 (none : Option FieldType)) rm_X1_add (bk_Pc G [.ref a0, .int x1, .int x2, .int x3, .int x4] Y V) (bk_Q G none Y out) 0 0 (bk_A G) :=
  bk_met (by decide) (Nat.le_of_ble_eq_true rfl) (fun p e s m args below meth c ls C hnm hH hl => w_X1_add C _ _ _ _ _ _ _ _ _ _ hl hH hq)

def rm_X8_readHole : Room := bk_rm 7 0 0 192
set_option maxRecDepth 100000 in
set_option maxHeartbeats 4000000 in
theorem w_X8_readHole_129 (C : bk_C G p s m args meth c cX8_readHole RX8 4 (some FieldType.boolean)) : ∀ (V : bk_Val) (a0 : Nat) (x1 : Int32) (x2 : Int32) (x3 : Int32) (H : Heap) (locs : List Loc) (ls : Array Slot) (out : Int32 × bk_Val), lv_has ls 4 [(0, .ref a0), (1, .int x1), (2, .int x2), (3, .int x3)] → bk_H G Y V s.heap H locs → q_X8_readHole_129 N Y V a0 x1 x2 x3 = some out → W p l e rm_X8_readHole s m args below meth c H locs 0 0 (MQ below (bk_Q G (some (.int out.1)) Y out.2) args s 0 0 (bk_A G)) (F0 m 129 ls []) := by
  have hx := C.1
  have hb := C.2.1
  intro V a0 x1 x2 x3 H locs ls out hl hH hq
  unfold q_X8_readHole_129 at hq
  refine lv_aload_n hx hb dX8_readHole_129 rfl (lv_at hl 0 rfl) ?_
  obtain ⟨hs_1, hq⟩ := bk_ck_some hq
  obtain ⟨b_2, hr_3, hq⟩ := bk_bd_some hq
  refine bk_getr C hH fl_RX8_20 hs_1 rfl hr_3 dX8_readHole_130 ?_
  obtain ⟨hs_4, hq⟩ := bk_ck_some hq
  obtain ⟨b_5, hr_6, hq⟩ := bk_bd_some hq
  refine bk_getr C hH fl_RX8_150 hs_4 rfl hr_6 dX8_readHole_133 ?_
  refine lv_iload_n hx hb dX8_readHole_136 rfl (lv_at hl 1 rfl) ?_
  refine lv_iload_n hx hb dX8_readHole_137 rfl (lv_at hl 2 rfl) ?_
  refine lv_aload_n hx hb dX8_readHole_138 rfl (lv_at hl 0 rfl) ?_
  refine bk_geti C hH fl_RX8_147 hs_1 rfl dX8_readHole_139 ?_
  refine lv_iload_n hx hb dX8_readHole_142 rfl (lv_at hl 3 rfl) ?_
  obtain ⟨hs_9, hq⟩ := bk_ck_some hq
  obtain ⟨V_8, hr_7, hq⟩ := bk_bd_some hq
  refine bk_callV (rest := []) (As := [.int x1, .int x2, .int (bk_rI V a0 3), .int x3]) (ro := none) (Y1 := Y) (V1 := V_8) C hH hl.1 (c_X1_add hr_7) mc_X1_add mv_X1_add lk_RX8_167 hs_9 rfl rfl ⟨rfl, rfl⟩ ⟨by decide, by decide⟩ rfl (Nat.le_of_ble_eq_true rfl) dX8_readHole_143 ⟨by decide, by decide⟩ (fun H locs hH => ?_)
  refine lv_iconst (v := 1) hx hb dX8_readHole_146 (by decide) ?_
  cases hq
  exact bk_zret C hH (Or.inr rfl) dX8_readHole_147

set_option maxRecDepth 100000 in
set_option maxHeartbeats 4000000 in
theorem w_X8_readHole (C : bk_C G p s m args meth c cX8_readHole RX8 4 (some FieldType.boolean)) : ∀ (V : bk_Val) (a0 : Nat) (H : Heap) (locs : List Loc) (ls : Array Slot) (out : Int32 × bk_Val), lv_has ls 4 [(0, .ref a0)] → bk_H G Y V s.heap H locs → q_X8_readHole N Y V a0 = some out → W p l e rm_X8_readHole s m args below meth c H locs 0 0 (MQ below (bk_Q G (some (.int out.1)) Y out.2) args s 0 0 (bk_A G)) (F0 m 0 ls []) := by
  have hx := C.1
  have hb := C.2.1
  intro V a0 H locs ls out hl hH hq
  unfold q_X8_readHole at hq
  refine lv_aload_n hx hb dX8_readHole_0 rfl (lv_at hl 0 rfl) ?_
  obtain ⟨hs_10, hq⟩ := bk_ck_some hq
  obtain ⟨b_11, hr_12, hq⟩ := bk_bd_some hq
  refine bk_getr C hH fl_RX8_20 hs_10 rfl hr_12 dX8_readHole_1 ?_
  obtain ⟨hs_13, hq⟩ := bk_ck_some hq
  obtain ⟨b_14, hr_15, hq⟩ := bk_bd_some hq
  refine bk_getr C hH fl_RX8_150 hs_13 rfl hr_15 dX8_readHole_4 ?_
  obtain ⟨hs_16, hq⟩ := bk_ck_some hq
  refine bk_geti C hH fl_RX8_154 hs_16 rfl dX8_readHole_7 ?_
  refine lv_bipush (v := 6) hx hb dX8_readHole_10 (by decide) ?_
  refine lv_icmp_lt (tgt := 21) hx hb dX8_readHole_12 (by decide) (fun hc_54 => ?_) (fun hc_54 => ?_)
  · rw [if_pos hc_54] at hq
    refine lv_aload_n hx hb dX8_readHole_21 rfl (lv_at hl 0 rfl) ?_
    obtain ⟨b_17, hr_18, hq⟩ := bk_bd_some hq
    refine bk_getr C hH fl_RX8_14 hs_10 rfl hr_18 dX8_readHole_22 ?_
    obtain ⟨hs_21, hq⟩ := bk_ck_some hq
    obtain ⟨V_20, hr_19, hq⟩ := bk_bd_some hq
    refine bk_callV (rest := []) (As := []) (ro := none) (Y1 := Y) (V1 := V_20) C hH hl.1 (c_X9_step hr_19) mc_X9_step mv_X9_step lk_RX8_49 hs_21 rfl rfl ⟨rfl, rfl⟩ ⟨by decide, by decide⟩ rfl (Nat.le_of_ble_eq_true rfl) dX8_readHole_25 ⟨by decide, by decide⟩ (fun H locs hH => ?_)
    refine lv_aload_n hx hb dX8_readHole_28 rfl (lv_at hl 0 rfl) ?_
    refine lv_iconst (v := 0) hx hb dX8_readHole_29 (by decide) ?_
    refine lv_aload_n hx hb dX8_readHole_30 rfl (lv_at hl 0 rfl) ?_
    refine bk_getr C hH fl_RX8_20 hs_10 rfl hr_12 dX8_readHole_31 ?_
    obtain ⟨r_23, hr_22, hq⟩ := bk_bd_some hq
    refine bk_callV (rest := [.int 0, .ref a0]) (As := []) (ro := (some (.int r_23))) (Y1 := Y) (V1 := V_20) C hH hl.1 (c_X5_inches hr_22) mc_X5_inches mv_X5_inches lk_RX8_131 hs_13 rfl rfl ⟨rfl, rfl⟩ ⟨by decide, by decide⟩ rfl (Nat.le_of_ble_eq_true rfl) dX8_readHole_34 ⟨by decide, by decide⟩ (fun H locs hH => ?_)
    refine lv_iconst (v := 1) hx hb dX8_readHole_37 (by decide) ?_
    refine lv_isub hx hb dX8_readHole_38 ?_
    obtain ⟨r_25, V_26, hr_24, hq⟩ := bk_bd2_some hq
    refine bk_callV (rest := []) (As := [.int 0, .int (r_23 - 1)]) (ro := (some (.int r_25))) (Y1 := Y) (V1 := V_26) C hH hl.1 (c_X8_readNumber hr_24) mc_X8_readNumber mv_X8_readNumber lk_RX8_140 hs_10 rfl rfl ⟨rfl, rfl⟩ ⟨by decide, by decide⟩ rfl (Nat.le_of_ble_eq_true rfl) dX8_readHole_39 ⟨by decide, by decide⟩ (fun H locs hH => ?_)
    refine lv_if_ne (tgt := 47) hx hb dX8_readHole_42 (by decide) (fun hc_50 => ?_) (fun hc_50 => ?_)
    · rw [if_neg hc_50] at hq
      refine lv_aload_n hx hb dX8_readHole_47 rfl (lv_at hl 0 rfl) ?_
      refine bk_geti C hH fl_RX8_147 hs_10 rfl dX8_readHole_48 ?_
      refine lv_istore_n (lv' := [(1, .int (bk_rI V_26 a0 3)), (0, .ref a0)]) hx hb dX8_readHole_51 rfl hl (by decide) rfl (fun ls hl => ?_)
      refine lv_aload_n hx hb dX8_readHole_52 rfl (lv_at hl 1 rfl) ?_
      obtain ⟨r_28, hr_27, hq⟩ := bk_bd_some hq
      refine bk_callV (rest := []) (As := []) (ro := (some (.int r_28))) (Y1 := Y) (V1 := V_26) C hH hl.1 (c_X8_sideNamed hr_27) mc_X8_sideNamed mv_X8_sideNamed lk_RX8_159 hs_10 rfl rfl ⟨rfl, rfl⟩ ⟨by decide, by decide⟩ rfl (Nat.le_of_ble_eq_true rfl) dX8_readHole_53 ⟨by decide, by decide⟩ (fun H locs hH => ?_)
      refine lv_istore_n (lv' := [(2, .int r_28), (1, .int (bk_rI V_26 a0 3)), (0, .ref a0)]) hx hb dX8_readHole_56 rfl hl (by decide) rfl (fun ls hl => ?_)
      refine lv_iload_n hx hb dX8_readHole_57 rfl (lv_at hl 0 rfl) ?_
      refine lv_iconst (v := (-1)) hx hb dX8_readHole_58 (by decide) ?_
      refine lv_icmp_ne (tgt := 68) hx hb dX8_readHole_59 (by decide) (fun hc_49 => ?_) (fun hc_49 => ?_)
      · rw [if_neg hc_49] at hq
        refine lv_aload_n hx hb dX8_readHole_68 rfl (lv_at hl 2 rfl) ?_
        refine bk_getr C hH fl_RX8_20 hs_10 rfl hr_12 dX8_readHole_69 ?_
        refine bk_getr C hH fl_RX8_150 hs_13 rfl hr_15 dX8_readHole_72 ?_
        refine lv_iload_n hx hb dX8_readHole_75 rfl (lv_at hl 1 rfl) ?_
        refine lv_iload_n hx hb dX8_readHole_76 rfl (lv_at hl 0 rfl) ?_
        obtain ⟨r_30, hr_29, hq⟩ := bk_bd_some hq
        refine bk_callV (rest := []) (As := [.int (bk_rI V_26 a0 3), .int r_28]) (ro := (some (.int r_30))) (Y1 := Y) (V1 := V_26) C hH hl.1 (c_X1_isAt hr_29) mc_X1_isAt mv_X1_isAt lk_RX8_162 hs_16 rfl rfl ⟨rfl, rfl⟩ ⟨by decide, by decide⟩ rfl (Nat.le_of_ble_eq_true rfl) dX8_readHole_77 ⟨by decide, by decide⟩ (fun H locs hH => ?_)
        refine lv_if_eq (tgt := 89) hx hb dX8_readHole_80 (by decide) (fun hc_45 => ?_) (fun hc_45 => ?_)
        · rw [if_pos hc_45] at hq
          refine lv_aload_n hx hb dX8_readHole_89 rfl (lv_at hl 2 rfl) ?_
          refine bk_getr C hH fl_RX8_14 hs_10 rfl hr_18 dX8_readHole_90 ?_
          obtain ⟨V_32, hr_31, hq⟩ := bk_bd_some hq
          refine bk_callV (rest := []) (As := []) (ro := none) (Y1 := Y) (V1 := V_32) C hH hl.1 (c_X9_step hr_31) mc_X9_step mv_X9_step lk_RX8_49 hs_21 rfl rfl ⟨rfl, rfl⟩ ⟨by decide, by decide⟩ rfl (Nat.le_of_ble_eq_true rfl) dX8_readHole_93 ⟨by decide, by decide⟩ (fun H locs hH => ?_)
          refine lv_aload_n hx hb dX8_readHole_96 rfl (lv_at hl 2 rfl) ?_
          refine lv_iconst (v := 1) hx hb dX8_readHole_97 (by decide) ?_
          refine lv_bipush (v := 24) hx hb dX8_readHole_98 (by decide) ?_
          obtain ⟨r_34, V_35, hr_33, hq⟩ := bk_bd2_some hq
          refine bk_callV (rest := []) (As := [.int 1, .int 24]) (ro := (some (.int r_34))) (Y1 := Y) (V1 := V_35) C hH hl.1 (c_X8_readNumber hr_33) mc_X8_readNumber mv_X8_readNumber lk_RX8_140 hs_10 rfl rfl ⟨rfl, rfl⟩ ⟨by decide, by decide⟩ rfl (Nat.le_of_ble_eq_true rfl) dX8_readHole_100 ⟨by decide, by decide⟩ (fun H locs hH => ?_)
          refine lv_if_ne (tgt := 108) hx hb dX8_readHole_103 (by decide) (fun hc_41 => ?_) (fun hc_41 => ?_)
          · rw [if_neg hc_41] at hq
            refine lv_aload_n hx hb dX8_readHole_108 rfl (lv_at hl 2 rfl) ?_
            refine bk_getr C hH fl_RX8_14 hs_10 rfl hr_18 dX8_readHole_109 ?_
            refine bk_ldcS C (i := 26) (tx := "slow") rfl dX8_readHole_112 ?_
            obtain ⟨r_37, hr_36, hq⟩ := bk_bd_some hq
            refine bk_callV (rest := []) (As := [.ref (G.2.2.2.1 26)]) (ro := (some (.int r_37))) (Y1 := Y) (V1 := V_35) C hH hl.1 (c_X9_isWord hr_36) mc_X9_isWord mv_X9_isWord lk_RX8_45 hs_21 rfl rfl ⟨rfl, rfl⟩ ⟨by decide, by decide⟩ rfl (Nat.le_of_ble_eq_true rfl) dX8_readHole_114 ⟨by decide, by decide⟩ (fun H locs hH => ?_)
            refine lv_istore_n (lv' := [(3, .int r_37), (2, .int r_28), (1, .int (bk_rI V_26 a0 3)), (0, .ref a0)]) hx hb dX8_readHole_117 rfl hl (by decide) rfl (fun ls hl => ?_)
            refine lv_iload_n hx hb dX8_readHole_118 rfl (lv_at hl 0 rfl) ?_
            refine lv_if_eq (tgt := 129) hx hb dX8_readHole_119 (by decide) (fun hc_40 => ?_) (fun hc_40 => ?_)
            · rw [if_pos hc_40] at hq
              exact w_X8_readHole_129 C _ _ _ _ _ _ _ _ _ (lv_sub hl [3, 2, 1, 0] rfl) hH hq
            · rw [if_neg hc_40] at hq
              refine lv_aload_n hx hb dX8_readHole_122 rfl (lv_at hl 3 rfl) ?_
              refine bk_getr C hH fl_RX8_14 hs_10 rfl hr_18 dX8_readHole_123 ?_
              obtain ⟨V_39, hr_38, hq⟩ := bk_bd_some hq
              refine bk_callV (rest := []) (As := []) (ro := none) (Y1 := Y) (V1 := V_39) C hH hl.1 (c_X9_step hr_38) mc_X9_step mv_X9_step lk_RX8_49 hs_21 rfl rfl ⟨rfl, rfl⟩ ⟨by decide, by decide⟩ rfl (Nat.le_of_ble_eq_true rfl) dX8_readHole_126 ⟨by decide, by decide⟩ (fun H locs hH => ?_)
              exact w_X8_readHole_129 C _ _ _ _ _ _ _ _ _ (lv_sub hl [3, 2, 1, 0] rfl) hH hq
          · rw [if_pos hc_41] at hq
            refine lv_iconst (v := 0) hx hb dX8_readHole_106 (by decide) ?_
            cases hq
            exact bk_zret C hH (Or.inl rfl) dX8_readHole_107
        · rw [if_neg hc_45] at hq
          refine lv_aload_n hx hb dX8_readHole_83 rfl (lv_at hl 2 rfl) ?_
          refine lv_iconst (v := 4) hx hb dX8_readHole_84 (by decide) ?_
          obtain ⟨r_43, V_44, hr_42, hq⟩ := bk_bd2_some hq
          refine bk_callV (rest := []) (As := [.int 4]) (ro := (some (.int r_43))) (Y1 := Y) (V1 := V_44) C hH hl.1 (c_X8_refuse hr_42) mc_X8_refuse mv_X8_refuse lk_RX8_71 hs_10 rfl rfl ⟨rfl, rfl⟩ ⟨by decide, by decide⟩ rfl (Nat.le_of_ble_eq_true rfl) dX8_readHole_85 ⟨by decide, by decide⟩ (fun H locs hH => ?_)
          obtain ⟨hz9, hq⟩ := bk_ck_some hq
          cases hq
          exact bk_zret C hH hz9 dX8_readHole_88
      · rw [if_pos hc_49] at hq
        refine lv_aload_n hx hb dX8_readHole_62 rfl (lv_at hl 2 rfl) ?_
        refine lv_iconst (v := 1) hx hb dX8_readHole_63 (by decide) ?_
        obtain ⟨r_47, V_48, hr_46, hq⟩ := bk_bd2_some hq
        refine bk_callV (rest := []) (As := [.int 1]) (ro := (some (.int r_47))) (Y1 := Y) (V1 := V_48) C hH hl.1 (c_X8_refuse hr_46) mc_X8_refuse mv_X8_refuse lk_RX8_71 hs_10 rfl rfl ⟨rfl, rfl⟩ ⟨by decide, by decide⟩ rfl (Nat.le_of_ble_eq_true rfl) dX8_readHole_64 ⟨by decide, by decide⟩ (fun H locs hH => ?_)
        obtain ⟨hz9, hq⟩ := bk_ck_some hq
        cases hq
        exact bk_zret C hH hz9 dX8_readHole_67
    · rw [if_pos hc_50] at hq
      refine lv_iconst (v := 0) hx hb dX8_readHole_45 (by decide) ?_
      cases hq
      exact bk_zret C hH (Or.inl rfl) dX8_readHole_46
  · rw [if_neg hc_54] at hq
    refine lv_aload_n hx hb dX8_readHole_15 rfl (lv_at hl 0 rfl) ?_
    refine lv_iconst (v := 2) hx hb dX8_readHole_16 (by decide) ?_
    obtain ⟨r_52, V_53, hr_51, hq⟩ := bk_bd2_some hq
    refine bk_callV (rest := []) (As := [.int 2]) (ro := (some (.int r_52))) (Y1 := Y) (V1 := V_53) C hH hl.1 (c_X8_refuse hr_51) mc_X8_refuse mv_X8_refuse lk_RX8_71 hs_10 rfl rfl ⟨rfl, rfl⟩ ⟨by decide, by decide⟩ rfl (Nat.le_of_ble_eq_true rfl) dX8_readHole_17 ⟨by decide, by decide⟩ (fun H locs hH => ?_)
    obtain ⟨hz9, hq⟩ := bk_ck_some hq
    cases hq
    exact bk_zret C hH hz9 dX8_readHole_20
set_option maxRecDepth 100000 in
theorem c_X8_readHole {l : Launch} {G : bk_G} {N : Nat} {Y : bk_Lay} {V : bk_Val} {a0 : Nat} {out : Int32 × bk_Val} (hq : q_X8_readHole N Y V a0 = some out) : Met l yX8_readHole (bk_ws yX8_readHole cX8_readHole 4 (some FieldType.boolean)) rm_X8_readHole (bk_Pc G [.ref a0] Y V) (bk_Q G (some (.int out.1)) Y out.2) 0 0 (bk_A G) :=
  bk_met (by decide) (Nat.le_of_ble_eq_true rfl) (fun p e s m args below meth c ls C hnm hH hl => w_X8_readHole C _ _ _ _ _ _ hl hH hq)

def rm_X10_add : Room := bk_rm 0 0 0 0
set_option maxRecDepth 100000 in
set_option maxHeartbeats 4000000 in
theorem w_X10_add (C : bk_C G p s m args meth c cX10_add RX10 3 (none : Option FieldType)) : ∀ (V : bk_Val) (a0 : Nat) (x1 : Int32) (x2 : Int32) (H : Heap) (locs : List Loc) (ls : Array Slot) (out : bk_Val), lv_has ls 3 [(0, .ref a0), (1, .int x1), (2, .int x2)] → bk_H G Y V s.heap H locs → q_X10_add N Y V a0 x1 x2 = some out → W p l e rm_X10_add s m args below meth c H locs 0 0 (MQ below (bk_Q G none Y out) args s 0 0 (bk_A G)) (F0 m 0 ls []) := by
  have hx := C.1
  have hb := C.2.1
  intro V a0 x1 x2 H locs ls out hl hH hq
  unfold q_X10_add at hq
  refine lv_aload_n hx hb dX10_add_0 rfl (lv_at hl 0 rfl) ?_
  obtain ⟨hs_1, hq⟩ := bk_ck_some hq
  refine bk_geti C hH fl_RX10_18 hs_1 rfl dX10_add_1 ?_
  refine lv_bipush (v := 6) hx hb dX10_add_4 (by decide) ?_
  refine lv_icmp_ge (tgt := 39) hx hb dX10_add_6 (by decide) (fun hc_16 => ?_) (fun hc_16 => ?_)
  · rw [if_pos hc_16] at hq
    cases hq
    exact bk_vret C hH dX10_add_39
  · rw [if_neg hc_16] at hq
    refine lv_aload_n hx hb dX10_add_9 rfl (lv_at hl 0 rfl) ?_
    obtain ⟨b_2, hr_3, hq⟩ := bk_bd_some hq
    refine bk_getr C hH fl_RX10_9 hs_1 rfl hr_3 dX10_add_10 ?_
    refine lv_aload_n hx hb dX10_add_13 rfl (lv_at hl 0 rfl) ?_
    refine bk_geti C hH fl_RX10_18 hs_1 rfl dX10_add_14 ?_
    refine lv_iload_n hx hb dX10_add_17 rfl (lv_at hl 1 rfl) ?_
    obtain ⟨ha_4, hq⟩ := bk_ck_some hq
    obtain ⟨hi_5, hq⟩ := bk_ck_some hq
    refine bk_iast C hH (bk_arr ha_4) (bk_in_vp hi_5) dX10_add_18 (fun V_6 H locs e_7 hH => ?_)
    have hq := bk_let_eq e_7 hq
    refine lv_aload_n hx hb dX10_add_19 rfl (lv_at hl 0 rfl) ?_
    obtain ⟨b_8, hr_9, hq⟩ := bk_bd_some hq
    refine bk_getr C hH fl_RX10_15 hs_1 rfl hr_9 dX10_add_20 ?_
    refine lv_aload_n hx hb dX10_add_23 rfl (lv_at hl 0 rfl) ?_
    refine bk_geti C hH fl_RX10_18 hs_1 rfl dX10_add_24 ?_
    refine lv_iload_n hx hb dX10_add_27 rfl (lv_at hl 2 rfl) ?_
    obtain ⟨ha_10, hq⟩ := bk_ck_some hq
    obtain ⟨hi_11, hq⟩ := bk_ck_some hq
    refine bk_iast C hH (bk_arr ha_10) (bk_in_vp hi_11) dX10_add_28 (fun V_12 H locs e_13 hH => ?_)
    have hq := bk_let_eq e_13 hq
    refine lv_aload_n hx hb dX10_add_29 rfl (lv_at hl 0 rfl) ?_
    refine lv_dup hx hb dX10_add_30 rfl ?_
    refine bk_geti C hH fl_RX10_18 hs_1 rfl dX10_add_31 ?_
    refine lv_iconst (v := 1) hx hb dX10_add_34 (by decide) ?_
    refine lv_iadd hx hb dX10_add_35 ?_
    refine bk_puti C hH fp_RX10_18 (fun h => by cases h) hs_1 rfl dX10_add_36 (fun V_14 H locs e_15 hH => ?_)
    have hq := bk_let_eq e_15 hq
    cases hq
    exact bk_vret C hH dX10_add_39
set_option maxRecDepth 100000 in
theorem c_X10_add {l : Launch} {G : bk_G} {N : Nat} {Y : bk_Lay} {V : bk_Val} {a0 : Nat} {x1 : Int32} {x2 : Int32} {out : bk_Val} (hq : q_X10_add N Y V a0 x1 x2 = some out) : Met l yX10_add (bk_ws yX10_add cX10_add 3 (none : Option FieldType)) rm_X10_add (bk_Pc G [.ref a0, .int x1, .int x2] Y V) (bk_Q G none Y out) 0 0 (bk_A G) :=
  bk_met (by decide) (Nat.le_of_ble_eq_true rfl) (fun p e s m args below meth c ls C hnm hH hl => w_X10_add C _ _ _ _ _ _ _ _ hl hH hq)

def rm_X8_readTry : Room := bk_rm 3 0 0 62
set_option maxRecDepth 100000 in
set_option maxHeartbeats 4000000 in
theorem w_X8_readTry (C : bk_C G p s m args meth c cX8_readTry RX8 2 (some FieldType.boolean)) : ∀ (V : bk_Val) (a0 : Nat) (H : Heap) (locs : List Loc) (ls : Array Slot) (out : Int32 × bk_Val), lv_has ls 2 [(0, .ref a0)] → bk_H G Y V s.heap H locs → q_X8_readTry N Y V a0 = some out → W p l e rm_X8_readTry s m args below meth c H locs 0 0 (MQ below (bk_Q G (some (.int out.1)) Y out.2) args s 0 0 (bk_A G)) (F0 m 0 ls []) := by
  have hx := C.1
  have hb := C.2.1
  intro V a0 H locs ls out hl hH hq
  unfold q_X8_readTry at hq
  refine lv_aload_n hx hb dX8_readTry_0 rfl (lv_at hl 0 rfl) ?_
  obtain ⟨hs_1, hq⟩ := bk_ck_some hq
  obtain ⟨b_2, hr_3, hq⟩ := bk_bd_some hq
  refine bk_getr C hH fl_RX8_20 hs_1 rfl hr_3 dX8_readTry_1 ?_
  obtain ⟨hs_4, hq⟩ := bk_ck_some hq
  obtain ⟨b_5, hr_6, hq⟩ := bk_bd_some hq
  refine bk_getr C hH fl_RX8_190 hs_4 rfl hr_6 dX8_readTry_4 ?_
  obtain ⟨hs_7, hq⟩ := bk_ck_some hq
  refine bk_geti C hH fl_RX8_194 hs_7 rfl dX8_readTry_7 ?_
  refine lv_bipush (v := 6) hx hb dX8_readTry_10 (by decide) ?_
  refine lv_icmp_lt (tgt := 21) hx hb dX8_readTry_12 (by decide) (fun hc_26 => ?_) (fun hc_26 => ?_)
  · rw [if_pos hc_26] at hq
    refine lv_aload_n hx hb dX8_readTry_21 rfl (lv_at hl 0 rfl) ?_
    obtain ⟨b_8, hr_9, hq⟩ := bk_bd_some hq
    refine bk_getr C hH fl_RX8_14 hs_1 rfl hr_9 dX8_readTry_22 ?_
    obtain ⟨hs_12, hq⟩ := bk_ck_some hq
    obtain ⟨V_11, hr_10, hq⟩ := bk_bd_some hq
    refine bk_callV (rest := []) (As := []) (ro := none) (Y1 := Y) (V1 := V_11) C hH hl.1 (c_X9_step hr_10) mc_X9_step mv_X9_step lk_RX8_49 hs_12 rfl rfl ⟨rfl, rfl⟩ ⟨by decide, by decide⟩ rfl (Nat.le_of_ble_eq_true rfl) dX8_readTry_25 ⟨by decide, by decide⟩ (fun H locs hH => ?_)
    refine lv_aload_n hx hb dX8_readTry_28 rfl (lv_at hl 0 rfl) ?_
    refine lv_iconst (v := 1) hx hb dX8_readTry_29 (by decide) ?_
    refine lv_bipush (v := 99) hx hb dX8_readTry_30 (by decide) ?_
    obtain ⟨r_14, V_15, hr_13, hq⟩ := bk_bd2_some hq
    refine bk_callV (rest := []) (As := [.int 1, .int 99]) (ro := (some (.int r_14))) (Y1 := Y) (V1 := V_15) C hH hl.1 (c_X8_readNumber hr_13) mc_X8_readNumber mv_X8_readNumber lk_RX8_140 hs_1 rfl rfl ⟨rfl, rfl⟩ ⟨by decide, by decide⟩ rfl (Nat.le_of_ble_eq_true rfl) dX8_readTry_32 ⟨by decide, by decide⟩ (fun H locs hH => ?_)
    refine lv_if_ne (tgt := 40) hx hb dX8_readTry_35 (by decide) (fun hc_22 => ?_) (fun hc_22 => ?_)
    · rw [if_neg hc_22] at hq
      refine lv_aload_n hx hb dX8_readTry_40 rfl (lv_at hl 0 rfl) ?_
      refine bk_geti C hH fl_RX8_147 hs_1 rfl dX8_readTry_41 ?_
      refine lv_istore_n (lv' := [(1, .int (bk_rI V_15 a0 3)), (0, .ref a0)]) hx hb dX8_readTry_44 rfl hl (by decide) rfl (fun ls hl => ?_)
      refine lv_aload_n hx hb dX8_readTry_45 rfl (lv_at hl 1 rfl) ?_
      refine lv_iconst (v := 1) hx hb dX8_readTry_46 (by decide) ?_
      refine lv_bipush (v := 99) hx hb dX8_readTry_47 (by decide) ?_
      obtain ⟨r_17, V_18, hr_16, hq⟩ := bk_bd2_some hq
      refine bk_callV (rest := []) (As := [.int 1, .int 99]) (ro := (some (.int r_17))) (Y1 := Y) (V1 := V_18) C hH hl.1 (c_X8_readNumber hr_16) mc_X8_readNumber mv_X8_readNumber lk_RX8_140 hs_1 rfl rfl ⟨rfl, rfl⟩ ⟨by decide, by decide⟩ rfl (Nat.le_of_ble_eq_true rfl) dX8_readTry_49 ⟨by decide, by decide⟩ (fun H locs hH => ?_)
      refine lv_if_ne (tgt := 57) hx hb dX8_readTry_52 (by decide) (fun hc_21 => ?_) (fun hc_21 => ?_)
      · rw [if_neg hc_21] at hq
        refine lv_aload_n hx hb dX8_readTry_57 rfl (lv_at hl 1 rfl) ?_
        refine bk_getr C hH fl_RX8_20 hs_1 rfl hr_3 dX8_readTry_58 ?_
        refine bk_getr C hH fl_RX8_190 hs_4 rfl hr_6 dX8_readTry_61 ?_
        refine lv_iload_n hx hb dX8_readTry_64 rfl (lv_at hl 0 rfl) ?_
        refine lv_aload_n hx hb dX8_readTry_65 rfl (lv_at hl 1 rfl) ?_
        refine bk_geti C hH fl_RX8_147 hs_1 rfl dX8_readTry_66 ?_
        obtain ⟨V_20, hr_19, hq⟩ := bk_bd_some hq
        refine bk_callV (rest := []) (As := [.int (bk_rI V_15 a0 3), .int (bk_rI V_18 a0 3)]) (ro := none) (Y1 := Y) (V1 := V_20) C hH hl.1 (c_X10_add hr_19) mc_X10_add mv_X10_add lk_RX8_197 hs_7 rfl rfl ⟨rfl, rfl⟩ ⟨by decide, by decide⟩ rfl (Nat.le_of_ble_eq_true rfl) dX8_readTry_69 ⟨by decide, by decide⟩ (fun H locs hH => ?_)
        refine lv_iconst (v := 1) hx hb dX8_readTry_72 (by decide) ?_
        cases hq
        exact bk_zret C hH (Or.inr rfl) dX8_readTry_73
      · rw [if_pos hc_21] at hq
        refine lv_iconst (v := 0) hx hb dX8_readTry_55 (by decide) ?_
        cases hq
        exact bk_zret C hH (Or.inl rfl) dX8_readTry_56
    · rw [if_pos hc_22] at hq
      refine lv_iconst (v := 0) hx hb dX8_readTry_38 (by decide) ?_
      cases hq
      exact bk_zret C hH (Or.inl rfl) dX8_readTry_39
  · rw [if_neg hc_26] at hq
    refine lv_aload_n hx hb dX8_readTry_15 rfl (lv_at hl 0 rfl) ?_
    refine lv_iconst (v := 2) hx hb dX8_readTry_16 (by decide) ?_
    obtain ⟨r_24, V_25, hr_23, hq⟩ := bk_bd2_some hq
    refine bk_callV (rest := []) (As := [.int 2]) (ro := (some (.int r_24))) (Y1 := Y) (V1 := V_25) C hH hl.1 (c_X8_refuse hr_23) mc_X8_refuse mv_X8_refuse lk_RX8_71 hs_1 rfl rfl ⟨rfl, rfl⟩ ⟨by decide, by decide⟩ rfl (Nat.le_of_ble_eq_true rfl) dX8_readTry_17 ⟨by decide, by decide⟩ (fun H locs hH => ?_)
    obtain ⟨hz9, hq⟩ := bk_ck_some hq
    cases hq
    exact bk_zret C hH hz9 dX8_readTry_20
set_option maxRecDepth 100000 in
theorem c_X8_readTry {l : Launch} {G : bk_G} {N : Nat} {Y : bk_Lay} {V : bk_Val} {a0 : Nat} {out : Int32 × bk_Val} (hq : q_X8_readTry N Y V a0 = some out) : Met l yX8_readTry (bk_ws yX8_readTry cX8_readTry 2 (some FieldType.boolean)) rm_X8_readTry (bk_Pc G [.ref a0] Y V) (bk_Q G (some (.int out.1)) Y out.2) 0 0 (bk_A G) :=
  bk_met (by decide) (Nat.le_of_ble_eq_true rfl) (fun p e s m args below meth c ls C hnm hH hl => w_X8_readTry C _ _ _ _ _ _ hl hH hq)

def rm_X2_add : Room := bk_rm 1 0 0 21
set_option maxRecDepth 100000 in
set_option maxHeartbeats 4000000 in
theorem w_X2_add (C : bk_C G p s m args meth c cX2_add RX2 5 (none : Option FieldType)) : ∀ (V : bk_Val) (a0 : Nat) (x1 : Int32) (x2 : Int32) (x3 : Int32) (x4 : Int32) (H : Heap) (locs : List Loc) (ls : Array Slot) (out : bk_Val), lv_has ls 5 [(0, .ref a0), (1, .int x1), (2, .int x2), (3, .int x3), (4, .int x4)] → bk_H G Y V s.heap H locs → q_X2_add N Y V a0 x1 x2 x3 x4 = some out → W p l e rm_X2_add s m args below meth c H locs 0 0 (MQ below (bk_Q G none Y out) args s 0 0 (bk_A G)) (F0 m 0 ls []) := by
  have hx := C.1
  have hb := C.2.1
  intro V a0 x1 x2 x3 x4 H locs ls out hl hH hq
  unfold q_X2_add at hq
  refine lv_aload_n hx hb dX2_add_0 rfl (lv_at hl 0 rfl) ?_
  obtain ⟨hs_1, hq⟩ := bk_ck_some hq
  refine bk_geti C hH fl_RX2_25 hs_1 rfl dX2_add_1 ?_
  refine lv_bipush (v := 8) hx hb dX2_add_4 (by decide) ?_
  refine lv_icmp_ge (tgt := 68) hx hb dX2_add_6 (by decide) (fun hc_33 => ?_) (fun hc_33 => ?_)
  · rw [if_pos hc_33] at hq
    cases hq
    exact bk_vret C hH dX2_add_68
  · rw [if_neg hc_33] at hq
    refine lv_aload_n hx hb dX2_add_9 rfl (lv_at hl 0 rfl) ?_
    obtain ⟨b_2, hr_3, hq⟩ := bk_bd_some hq
    refine bk_getr C hH fl_RX2_9 hs_1 rfl hr_3 dX2_add_10 ?_
    refine lv_aload_n hx hb dX2_add_13 rfl (lv_at hl 0 rfl) ?_
    refine bk_geti C hH fl_RX2_25 hs_1 rfl dX2_add_14 ?_
    refine lv_iload_n hx hb dX2_add_17 rfl (lv_at hl 1 rfl) ?_
    refine lv_iload_n hx hb dX2_add_18 rfl (lv_at hl 2 rfl) ?_
    obtain ⟨r_5, hr_4, hq⟩ := bk_bd_some hq
    refine bk_callS (rest := [.int (bk_rI V a0 4), .ref b_2]) (As := [.int x1, .int x2]) (ro := (some (.int r_5))) (Y1 := Y) (V1 := V) C hH hl.1 (c_J9_min_7cf53 hr_4) mc_J9_min_7cf53 st_J9_min_7cf53 lk_RX2_29 rfl ⟨rfl, rfl⟩ ⟨by decide, by decide⟩ rfl (Nat.le_of_ble_eq_true rfl) dX2_add_19 ⟨by decide, by decide⟩ (fun H locs hH => ?_)
    obtain ⟨ha_6, hq⟩ := bk_ck_some hq
    obtain ⟨hi_7, hq⟩ := bk_ck_some hq
    refine bk_iast C hH (bk_arr ha_6) (bk_in_vp hi_7) dX2_add_22 (fun V_8 H locs e_9 hH => ?_)
    have hq := bk_let_eq e_9 hq
    refine lv_aload_n hx hb dX2_add_23 rfl (lv_at hl 0 rfl) ?_
    obtain ⟨b_10, hr_11, hq⟩ := bk_bd_some hq
    refine bk_getr C hH fl_RX2_15 hs_1 rfl hr_11 dX2_add_24 ?_
    refine lv_aload_n hx hb dX2_add_27 rfl (lv_at hl 0 rfl) ?_
    refine bk_geti C hH fl_RX2_25 hs_1 rfl dX2_add_28 ?_
    refine lv_iload_n hx hb dX2_add_31 rfl (lv_at hl 1 rfl) ?_
    refine lv_iload_n hx hb dX2_add_32 rfl (lv_at hl 2 rfl) ?_
    obtain ⟨r_13, hr_12, hq⟩ := bk_bd_some hq
    refine bk_callS (rest := [.int (bk_rI V_8 a0 4), .ref b_10]) (As := [.int x1, .int x2]) (ro := (some (.int r_13))) (Y1 := Y) (V1 := V_8) C hH hl.1 (c_J9_max_7cf53 hr_12) mc_J9_max_7cf53 st_J9_max_7cf53 lk_RX2_35 rfl ⟨rfl, rfl⟩ ⟨by decide, by decide⟩ rfl (Nat.le_of_ble_eq_true rfl) dX2_add_33 ⟨by decide, by decide⟩ (fun H locs hH => ?_)
    obtain ⟨ha_14, hq⟩ := bk_ck_some hq
    obtain ⟨hi_15, hq⟩ := bk_ck_some hq
    refine bk_iast C hH (bk_arr ha_14) (bk_in_vp hi_15) dX2_add_36 (fun V_16 H locs e_17 hH => ?_)
    have hq := bk_let_eq e_17 hq
    refine lv_aload_n hx hb dX2_add_37 rfl (lv_at hl 0 rfl) ?_
    obtain ⟨b_18, hr_19, hq⟩ := bk_bd_some hq
    refine bk_getr C hH fl_RX2_18 hs_1 rfl hr_19 dX2_add_38 ?_
    refine lv_aload_n hx hb dX2_add_41 rfl (lv_at hl 0 rfl) ?_
    refine bk_geti C hH fl_RX2_25 hs_1 rfl dX2_add_42 ?_
    refine lv_iload_n hx hb dX2_add_45 rfl (lv_at hl 3 rfl) ?_
    obtain ⟨ha_20, hq⟩ := bk_ck_some hq
    obtain ⟨hi_21, hq⟩ := bk_ck_some hq
    refine bk_iast C hH (bk_arr ha_20) (bk_in_vp hi_21) dX2_add_46 (fun V_22 H locs e_23 hH => ?_)
    have hq := bk_let_eq e_23 hq
    refine lv_aload_n hx hb dX2_add_47 rfl (lv_at hl 0 rfl) ?_
    obtain ⟨b_24, hr_25, hq⟩ := bk_bd_some hq
    refine bk_getr C hH fl_RX2_21 hs_1 rfl hr_25 dX2_add_48 ?_
    refine lv_aload_n hx hb dX2_add_51 rfl (lv_at hl 0 rfl) ?_
    refine bk_geti C hH fl_RX2_25 hs_1 rfl dX2_add_52 ?_
    refine lv_iload hx hb dX2_add_55 (lv_at hl 4 rfl) ?_
    obtain ⟨ha_26, hq⟩ := bk_ck_some hq
    obtain ⟨hi_27, hq⟩ := bk_ck_some hq
    obtain ⟨hz_28, hq⟩ := bk_ck_some hq
    refine bk_zast C hH (bk_arr ha_26) (bk_in_vp hi_27) hz_28 dX2_add_57 (fun V_29 H locs e_30 hH => ?_)
    have hq := bk_let_eq e_30 hq
    refine lv_aload_n hx hb dX2_add_58 rfl (lv_at hl 0 rfl) ?_
    refine lv_dup hx hb dX2_add_59 rfl ?_
    refine bk_geti C hH fl_RX2_25 hs_1 rfl dX2_add_60 ?_
    refine lv_iconst (v := 1) hx hb dX2_add_63 (by decide) ?_
    refine lv_iadd hx hb dX2_add_64 ?_
    refine bk_puti C hH fp_RX2_25 (fun h => by cases h) hs_1 rfl dX2_add_65 (fun V_31 H locs e_32 hH => ?_)
    have hq := bk_let_eq e_32 hq
    cases hq
    exact bk_vret C hH dX2_add_68
set_option maxRecDepth 100000 in
theorem c_X2_add {l : Launch} {G : bk_G} {N : Nat} {Y : bk_Lay} {V : bk_Val} {a0 : Nat} {x1 : Int32} {x2 : Int32} {x3 : Int32} {x4 : Int32} {out : bk_Val} (hq : q_X2_add N Y V a0 x1 x2 x3 x4 = some out) : Met l yX2_add (bk_ws yX2_add cX2_add 5 (none : Option FieldType)) rm_X2_add (bk_Pc G [.ref a0, .int x1, .int x2, .int x3, .int x4] Y V) (bk_Q G none Y out) 0 0 (bk_A G) :=
  bk_met (by decide) (Nat.le_of_ble_eq_true rfl) (fun p e s m args below meth c ls C hnm hH hl => w_X2_add C _ _ _ _ _ _ _ _ _ _ hl hH hq)

def rm_X8_readRider : Room := bk_rm 6 0 0 172
set_option maxRecDepth 100000 in
set_option maxHeartbeats 4000000 in
theorem w_X8_readRider_106 (C : bk_C G p s m args meth c cX8_readRider RX8 4 (some FieldType.boolean)) : ∀ (V : bk_Val) (a0 : Nat) (x1 : Int32) (x2 : Int32) (x3 : Int32) (H : Heap) (locs : List Loc) (ls : Array Slot) (out : Int32 × bk_Val), lv_has ls 4 [(0, .ref a0), (1, .int x1), (2, .int x2), (3, .int x3)] → bk_H G Y V s.heap H locs → q_X8_readRider_106 N Y V a0 x1 x2 x3 = some out → W p l e rm_X8_readRider s m args below meth c H locs 0 0 (MQ below (bk_Q G (some (.int out.1)) Y out.2) args s 0 0 (bk_A G)) (F0 m 106 ls []) := by
  have hx := C.1
  have hb := C.2.1
  intro V a0 x1 x2 x3 H locs ls out hl hH hq
  unfold q_X8_readRider_106 at hq
  refine lv_aload_n hx hb dX8_readRider_106 rfl (lv_at hl 0 rfl) ?_
  obtain ⟨hs_1, hq⟩ := bk_ck_some hq
  obtain ⟨b_2, hr_3, hq⟩ := bk_bd_some hq
  refine bk_getr C hH fl_RX8_14 hs_1 rfl hr_3 dX8_readRider_107 ?_
  obtain ⟨hs_6, hq⟩ := bk_ck_some hq
  obtain ⟨V_5, hr_4, hq⟩ := bk_bd_some hq
  refine bk_callV (rest := []) (As := []) (ro := none) (Y1 := Y) (V1 := V_5) C hH hl.1 (c_X9_step hr_4) mc_X9_step mv_X9_step lk_RX8_49 hs_6 rfl rfl ⟨rfl, rfl⟩ ⟨by decide, by decide⟩ rfl (Nat.le_of_ble_eq_true rfl) dX8_readRider_110 ⟨by decide, by decide⟩ (fun H locs hH => ?_)
  refine lv_aload_n hx hb dX8_readRider_113 rfl (lv_at hl 0 rfl) ?_
  obtain ⟨b_7, hr_8, hq⟩ := bk_bd_some hq
  refine bk_getr C hH fl_RX8_20 hs_1 rfl hr_8 dX8_readRider_114 ?_
  obtain ⟨hs_9, hq⟩ := bk_ck_some hq
  obtain ⟨b_10, hr_11, hq⟩ := bk_bd_some hq
  refine bk_getr C hH fl_RX8_200 hs_9 rfl hr_11 dX8_readRider_117 ?_
  refine lv_iload_n hx hb dX8_readRider_120 rfl (lv_at hl 1 rfl) ?_
  refine lv_iload_n hx hb dX8_readRider_121 rfl (lv_at hl 2 rfl) ?_
  refine lv_aload_n hx hb dX8_readRider_122 rfl (lv_at hl 0 rfl) ?_
  refine bk_geti C hH fl_RX8_147 hs_1 rfl dX8_readRider_123 ?_
  refine lv_iload_n hx hb dX8_readRider_126 rfl (lv_at hl 3 rfl) ?_
  obtain ⟨hs_14, hq⟩ := bk_ck_some hq
  obtain ⟨V_13, hr_12, hq⟩ := bk_bd_some hq
  refine bk_callV (rest := []) (As := [.int x1, .int x2, .int (bk_rI V_5 a0 3), .int x3]) (ro := none) (Y1 := Y) (V1 := V_13) C hH hl.1 (c_X2_add hr_12) mc_X2_add mv_X2_add lk_RX8_211 hs_14 rfl rfl ⟨rfl, rfl⟩ ⟨by decide, by decide⟩ rfl (Nat.le_of_ble_eq_true rfl) dX8_readRider_127 ⟨by decide, by decide⟩ (fun H locs hH => ?_)
  refine lv_iconst (v := 1) hx hb dX8_readRider_130 (by decide) ?_
  cases hq
  exact bk_zret C hH (Or.inr rfl) dX8_readRider_131

set_option maxRecDepth 100000 in
set_option maxHeartbeats 4000000 in
theorem w_X8_readRider (C : bk_C G p s m args meth c cX8_readRider RX8 4 (some FieldType.boolean)) : ∀ (V : bk_Val) (a0 : Nat) (H : Heap) (locs : List Loc) (ls : Array Slot) (out : Int32 × bk_Val), lv_has ls 4 [(0, .ref a0)] → bk_H G Y V s.heap H locs → q_X8_readRider N Y V a0 = some out → W p l e rm_X8_readRider s m args below meth c H locs 0 0 (MQ below (bk_Q G (some (.int out.1)) Y out.2) args s 0 0 (bk_A G)) (F0 m 0 ls []) := by
  have hx := C.1
  have hb := C.2.1
  intro V a0 H locs ls out hl hH hq
  unfold q_X8_readRider at hq
  refine lv_aload_n hx hb dX8_readRider_0 rfl (lv_at hl 0 rfl) ?_
  obtain ⟨hs_15, hq⟩ := bk_ck_some hq
  obtain ⟨b_16, hr_17, hq⟩ := bk_bd_some hq
  refine bk_getr C hH fl_RX8_20 hs_15 rfl hr_17 dX8_readRider_1 ?_
  obtain ⟨hs_18, hq⟩ := bk_ck_some hq
  obtain ⟨b_19, hr_20, hq⟩ := bk_bd_some hq
  refine bk_getr C hH fl_RX8_200 hs_18 rfl hr_20 dX8_readRider_4 ?_
  obtain ⟨hs_21, hq⟩ := bk_ck_some hq
  refine bk_geti C hH fl_RX8_204 hs_21 rfl dX8_readRider_7 ?_
  refine lv_bipush (v := 8) hx hb dX8_readRider_10 (by decide) ?_
  refine lv_icmp_lt (tgt := 21) hx hb dX8_readRider_12 (by decide) (fun hc_51 => ?_) (fun hc_51 => ?_)
  · rw [if_pos hc_51] at hq
    refine lv_aload_n hx hb dX8_readRider_21 rfl (lv_at hl 0 rfl) ?_
    obtain ⟨b_22, hr_23, hq⟩ := bk_bd_some hq
    refine bk_getr C hH fl_RX8_14 hs_15 rfl hr_23 dX8_readRider_22 ?_
    obtain ⟨hs_26, hq⟩ := bk_ck_some hq
    obtain ⟨V_25, hr_24, hq⟩ := bk_bd_some hq
    refine bk_callV (rest := []) (As := []) (ro := none) (Y1 := Y) (V1 := V_25) C hH hl.1 (c_X9_step hr_24) mc_X9_step mv_X9_step lk_RX8_49 hs_26 rfl rfl ⟨rfl, rfl⟩ ⟨by decide, by decide⟩ rfl (Nat.le_of_ble_eq_true rfl) dX8_readRider_25 ⟨by decide, by decide⟩ (fun H locs hH => ?_)
    refine lv_aload_n hx hb dX8_readRider_28 rfl (lv_at hl 0 rfl) ?_
    refine lv_iconst (v := 0) hx hb dX8_readRider_29 (by decide) ?_
    refine lv_bipush (v := 39) hx hb dX8_readRider_30 (by decide) ?_
    obtain ⟨r_28, V_29, hr_27, hq⟩ := bk_bd2_some hq
    refine bk_callV (rest := []) (As := [.int 0, .int 39]) (ro := (some (.int r_28))) (Y1 := Y) (V1 := V_29) C hH hl.1 (c_X8_readNumber hr_27) mc_X8_readNumber mv_X8_readNumber lk_RX8_140 hs_15 rfl rfl ⟨rfl, rfl⟩ ⟨by decide, by decide⟩ rfl (Nat.le_of_ble_eq_true rfl) dX8_readRider_32 ⟨by decide, by decide⟩ (fun H locs hH => ?_)
    refine lv_if_ne (tgt := 40) hx hb dX8_readRider_35 (by decide) (fun hc_47 => ?_) (fun hc_47 => ?_)
    · rw [if_neg hc_47] at hq
      refine lv_aload_n hx hb dX8_readRider_40 rfl (lv_at hl 0 rfl) ?_
      refine bk_geti C hH fl_RX8_147 hs_15 rfl dX8_readRider_41 ?_
      refine lv_istore_n (lv' := [(1, .int (bk_rI V_29 a0 3)), (0, .ref a0)]) hx hb dX8_readRider_44 rfl hl (by decide) rfl (fun ls hl => ?_)
      refine lv_aload_n hx hb dX8_readRider_45 rfl (lv_at hl 1 rfl) ?_
      refine lv_iconst (v := 0) hx hb dX8_readRider_46 (by decide) ?_
      refine lv_bipush (v := 39) hx hb dX8_readRider_47 (by decide) ?_
      obtain ⟨r_31, V_32, hr_30, hq⟩ := bk_bd2_some hq
      refine bk_callV (rest := []) (As := [.int 0, .int 39]) (ro := (some (.int r_31))) (Y1 := Y) (V1 := V_32) C hH hl.1 (c_X8_readNumber hr_30) mc_X8_readNumber mv_X8_readNumber lk_RX8_140 hs_15 rfl rfl ⟨rfl, rfl⟩ ⟨by decide, by decide⟩ rfl (Nat.le_of_ble_eq_true rfl) dX8_readRider_49 ⟨by decide, by decide⟩ (fun H locs hH => ?_)
      refine lv_if_ne (tgt := 57) hx hb dX8_readRider_52 (by decide) (fun hc_46 => ?_) (fun hc_46 => ?_)
      · rw [if_neg hc_46] at hq
        refine lv_aload_n hx hb dX8_readRider_57 rfl (lv_at hl 1 rfl) ?_
        refine bk_geti C hH fl_RX8_147 hs_15 rfl dX8_readRider_58 ?_
        refine lv_istore_n (lv' := [(2, .int (bk_rI V_32 a0 3)), (1, .int (bk_rI V_29 a0 3)), (0, .ref a0)]) hx hb dX8_readRider_61 rfl hl (by decide) rfl (fun ls hl => ?_)
        refine lv_aload_n hx hb dX8_readRider_62 rfl (lv_at hl 2 rfl) ?_
        refine lv_iconst (v := 0) hx hb dX8_readRider_63 (by decide) ?_
        refine lv_bipush (v := 23) hx hb dX8_readRider_64 (by decide) ?_
        obtain ⟨r_34, V_35, hr_33, hq⟩ := bk_bd2_some hq
        refine bk_callV (rest := []) (As := [.int 0, .int 23]) (ro := (some (.int r_34))) (Y1 := Y) (V1 := V_35) C hH hl.1 (c_X8_readNumber hr_33) mc_X8_readNumber mv_X8_readNumber lk_RX8_140 hs_15 rfl rfl ⟨rfl, rfl⟩ ⟨by decide, by decide⟩ rfl (Nat.le_of_ble_eq_true rfl) dX8_readRider_66 ⟨by decide, by decide⟩ (fun H locs hH => ?_)
        refine lv_if_ne (tgt := 74) hx hb dX8_readRider_69 (by decide) (fun hc_45 => ?_) (fun hc_45 => ?_)
        · rw [if_neg hc_45] at hq
          refine lv_aload_n hx hb dX8_readRider_74 rfl (lv_at hl 2 rfl) ?_
          refine bk_getr C hH fl_RX8_14 hs_15 rfl hr_23 dX8_readRider_75 ?_
          refine bk_ldcS C (i := 34) (tx := "flat") rfl dX8_readRider_78 ?_
          obtain ⟨r_37, hr_36, hq⟩ := bk_bd_some hq
          refine bk_callV (rest := []) (As := [.ref (G.2.2.2.1 34)]) (ro := (some (.int r_37))) (Y1 := Y) (V1 := V_35) C hH hl.1 (c_X9_isWord hr_36) mc_X9_isWord mv_X9_isWord lk_RX8_45 hs_26 rfl rfl ⟨rfl, rfl⟩ ⟨by decide, by decide⟩ rfl (Nat.le_of_ble_eq_true rfl) dX8_readRider_80 ⟨by decide, by decide⟩ (fun H locs hH => ?_)
          refine lv_istore_n (lv' := [(3, .int r_37), (2, .int (bk_rI V_32 a0 3)), (1, .int (bk_rI V_29 a0 3)), (0, .ref a0)]) hx hb dX8_readRider_83 rfl hl (by decide) rfl (fun ls hl => ?_)
          refine lv_iload_n hx hb dX8_readRider_84 rfl (lv_at hl 0 rfl) ?_
          refine lv_if_ne (tgt := 106) hx hb dX8_readRider_85 (by decide) (fun hc_44 => ?_) (fun hc_44 => ?_)
          · rw [if_neg hc_44] at hq
            exact w_X8_readRider_106 C _ _ _ _ _ _ _ _ _ (lv_sub hl [3, 2, 1, 0] rfl) hH hq
          · rw [if_pos hc_44] at hq
            refine lv_aload_n hx hb dX8_readRider_88 rfl (lv_at hl 3 rfl) ?_
            refine bk_getr C hH fl_RX8_14 hs_15 rfl hr_23 dX8_readRider_89 ?_
            refine bk_ldcS C (i := 35) (tx := "well") rfl dX8_readRider_92 ?_
            obtain ⟨r_39, hr_38, hq⟩ := bk_bd_some hq
            refine bk_callV (rest := []) (As := [.ref (G.2.2.2.1 35)]) (ro := (some (.int r_39))) (Y1 := Y) (V1 := V_35) C hH hl.1 (c_X9_isWord hr_38) mc_X9_isWord mv_X9_isWord lk_RX8_45 hs_26 rfl rfl ⟨rfl, rfl⟩ ⟨by decide, by decide⟩ rfl (Nat.le_of_ble_eq_true rfl) dX8_readRider_94 ⟨by decide, by decide⟩ (fun H locs hH => ?_)
            refine lv_if_ne (tgt := 106) hx hb dX8_readRider_97 (by decide) (fun hc_43 => ?_) (fun hc_43 => ?_)
            · rw [if_neg hc_43] at hq
              exact w_X8_readRider_106 C _ _ _ _ _ _ _ _ _ (lv_sub hl [3, 2, 1, 0] rfl) hH hq
            · rw [if_pos hc_43] at hq
              refine lv_aload_n hx hb dX8_readRider_100 rfl (lv_at hl 3 rfl) ?_
              refine lv_iconst (v := 1) hx hb dX8_readRider_101 (by decide) ?_
              obtain ⟨r_41, V_42, hr_40, hq⟩ := bk_bd2_some hq
              refine bk_callV (rest := []) (As := [.int 1]) (ro := (some (.int r_41))) (Y1 := Y) (V1 := V_42) C hH hl.1 (c_X8_refuse hr_40) mc_X8_refuse mv_X8_refuse lk_RX8_71 hs_15 rfl rfl ⟨rfl, rfl⟩ ⟨by decide, by decide⟩ rfl (Nat.le_of_ble_eq_true rfl) dX8_readRider_102 ⟨by decide, by decide⟩ (fun H locs hH => ?_)
              obtain ⟨hz9, hq⟩ := bk_ck_some hq
              cases hq
              exact bk_zret C hH hz9 dX8_readRider_105
        · rw [if_pos hc_45] at hq
          refine lv_iconst (v := 0) hx hb dX8_readRider_72 (by decide) ?_
          cases hq
          exact bk_zret C hH (Or.inl rfl) dX8_readRider_73
      · rw [if_pos hc_46] at hq
        refine lv_iconst (v := 0) hx hb dX8_readRider_55 (by decide) ?_
        cases hq
        exact bk_zret C hH (Or.inl rfl) dX8_readRider_56
    · rw [if_pos hc_47] at hq
      refine lv_iconst (v := 0) hx hb dX8_readRider_38 (by decide) ?_
      cases hq
      exact bk_zret C hH (Or.inl rfl) dX8_readRider_39
  · rw [if_neg hc_51] at hq
    refine lv_aload_n hx hb dX8_readRider_15 rfl (lv_at hl 0 rfl) ?_
    refine lv_iconst (v := 2) hx hb dX8_readRider_16 (by decide) ?_
    obtain ⟨r_49, V_50, hr_48, hq⟩ := bk_bd2_some hq
    refine bk_callV (rest := []) (As := [.int 2]) (ro := (some (.int r_49))) (Y1 := Y) (V1 := V_50) C hH hl.1 (c_X8_refuse hr_48) mc_X8_refuse mv_X8_refuse lk_RX8_71 hs_15 rfl rfl ⟨rfl, rfl⟩ ⟨by decide, by decide⟩ rfl (Nat.le_of_ble_eq_true rfl) dX8_readRider_17 ⟨by decide, by decide⟩ (fun H locs hH => ?_)
    obtain ⟨hz9, hq⟩ := bk_ck_some hq
    cases hq
    exact bk_zret C hH hz9 dX8_readRider_20
set_option maxRecDepth 100000 in
theorem c_X8_readRider {l : Launch} {G : bk_G} {N : Nat} {Y : bk_Lay} {V : bk_Val} {a0 : Nat} {out : Int32 × bk_Val} (hq : q_X8_readRider N Y V a0 = some out) : Met l yX8_readRider (bk_ws yX8_readRider cX8_readRider 4 (some FieldType.boolean)) rm_X8_readRider (bk_Pc G [.ref a0] Y V) (bk_Q G (some (.int out.1)) Y out.2) 0 0 (bk_A G) :=
  bk_met (by decide) (Nat.le_of_ble_eq_true rfl) (fun p e s m args below meth c ls C hnm hH hl => w_X8_readRider C _ _ _ _ _ _ hl hH hq)

def rm_X8_readLine : Room := bk_rm 84 0 0 1935
set_option maxRecDepth 100000 in
set_option maxHeartbeats 4000000 in
theorem w_X8_readLine (C : bk_C G p s m args meth c cX8_readLine RX8 2 (some FieldType.boolean)) : ∀ (V : bk_Val) (a0 : Nat) (H : Heap) (locs : List Loc) (ls : Array Slot) (out : Int32 × bk_Val), lv_has ls 2 [(0, .ref a0)] → bk_H G Y V s.heap H locs → q_X8_readLine N Y V a0 = some out → W p l e rm_X8_readLine s m args below meth c H locs 0 0 (MQ below (bk_Q G (some (.int out.1)) Y out.2) args s 0 0 (bk_A G)) (F0 m 0 ls []) := by
  have hx := C.1
  have hb := C.2.1
  intro V a0 H locs ls out hl hH hq
  unfold q_X8_readLine at hq
  refine lv_aload_n hx hb dX8_readLine_0 rfl (lv_at hl 0 rfl) ?_
  obtain ⟨hs_3, hq⟩ := bk_ck_some hq
  obtain ⟨r_2, hr_1, hq⟩ := bk_bd_some hq
  refine bk_callV (rest := []) (As := []) (ro := (some (.int r_2))) (Y1 := Y) (V1 := V) C hH hl.1 (c_X8_settingNamed hr_1) mc_X8_settingNamed mv_X8_settingNamed lk_RX8_77 hs_3 rfl rfl ⟨rfl, rfl⟩ ⟨by decide, by decide⟩ rfl (Nat.le_of_ble_eq_true rfl) dX8_readLine_1 ⟨by decide, by decide⟩ (fun H locs hH => ?_)
  refine lv_istore_n (lv' := [(1, .int r_2), (0, .ref a0)]) hx hb dX8_readLine_4 rfl hl (by decide) rfl (fun ls hl => ?_)
  refine lv_iload_n hx hb dX8_readLine_5 rfl (lv_at hl 0 rfl) ?_
  refine lv_iconst (v := (-1)) hx hb dX8_readLine_6 (by decide) ?_
  refine lv_icmp_eq (tgt := 41) hx hb dX8_readLine_7 (by decide) (fun hc_106 => ?_) (fun hc_106 => ?_)
  · rw [if_pos hc_106] at hq
    refine lv_aload_n hx hb dX8_readLine_41 rfl (lv_at hl 1 rfl) ?_
    obtain ⟨b_4, hr_5, hq⟩ := bk_bd_some hq
    refine bk_getr C hH fl_RX8_14 hs_3 rfl hr_5 dX8_readLine_42 ?_
    refine bk_ldcS C (i := 8) (tx := "leak") rfl dX8_readLine_45 ?_
    obtain ⟨hs_8, hq⟩ := bk_ck_some hq
    obtain ⟨r_7, hr_6, hq⟩ := bk_bd_some hq
    refine bk_callV (rest := []) (As := [.ref (G.2.2.2.1 8)]) (ro := (some (.int r_7))) (Y1 := Y) (V1 := V) C hH hl.1 (c_X9_isWord hr_6) mc_X9_isWord mv_X9_isWord lk_RX8_45 hs_8 rfl rfl ⟨rfl, rfl⟩ ⟨by decide, by decide⟩ rfl (Nat.le_of_ble_eq_true rfl) dX8_readLine_47 ⟨by decide, by decide⟩ (fun H locs hH => ?_)
    refine lv_if_eq (tgt := 92) hx hb dX8_readLine_50 (by decide) (fun hc_93 => ?_) (fun hc_93 => ?_)
    · rw [if_pos hc_93] at hq
      refine lv_aload_n hx hb dX8_readLine_92 rfl (lv_at hl 1 rfl) ?_
      refine bk_getr C hH fl_RX8_14 hs_3 rfl hr_5 dX8_readLine_93 ?_
      refine bk_ldcS C (i := 20) (tx := "holds") rfl dX8_readLine_96 ?_
      obtain ⟨r_10, hr_9, hq⟩ := bk_bd_some hq
      refine bk_callV (rest := []) (As := [.ref (G.2.2.2.1 20)]) (ro := (some (.int r_10))) (Y1 := Y) (V1 := V) C hH hl.1 (c_X9_isWord hr_9) mc_X9_isWord mv_X9_isWord lk_RX8_45 hs_8 rfl rfl ⟨rfl, rfl⟩ ⟨by decide, by decide⟩ rfl (Nat.le_of_ble_eq_true rfl) dX8_readLine_98 ⟨by decide, by decide⟩ (fun H locs hH => ?_)
      refine lv_if_eq (tgt := 143) hx hb dX8_readLine_101 (by decide) (fun hc_75 => ?_) (fun hc_75 => ?_)
      · rw [if_pos hc_75] at hq
        refine lv_aload_n hx hb dX8_readLine_143 rfl (lv_at hl 1 rfl) ?_
        refine bk_getr C hH fl_RX8_14 hs_3 rfl hr_5 dX8_readLine_144 ?_
        refine bk_ldcS C (i := 21) (tx := "hole") rfl dX8_readLine_147 ?_
        obtain ⟨r_12, hr_11, hq⟩ := bk_bd_some hq
        refine bk_callV (rest := []) (As := [.ref (G.2.2.2.1 21)]) (ro := (some (.int r_12))) (Y1 := Y) (V1 := V) C hH hl.1 (c_X9_isWord hr_11) mc_X9_isWord mv_X9_isWord lk_RX8_45 hs_8 rfl rfl ⟨rfl, rfl⟩ ⟨by decide, by decide⟩ rfl (Nat.le_of_ble_eq_true rfl) dX8_readLine_149 ⟨by decide, by decide⟩ (fun H locs hH => ?_)
        refine lv_if_eq (tgt := 177) hx hb dX8_readLine_152 (by decide) (fun hc_57 => ?_) (fun hc_57 => ?_)
        · rw [if_pos hc_57] at hq
          refine lv_aload_n hx hb dX8_readLine_177 rfl (lv_at hl 1 rfl) ?_
          refine bk_getr C hH fl_RX8_14 hs_3 rfl hr_5 dX8_readLine_178 ?_
          refine bk_ldcS C (i := 27) (tx := "cause") rfl dX8_readLine_181 ?_
          obtain ⟨r_14, hr_13, hq⟩ := bk_bd_some hq
          refine bk_callV (rest := []) (As := [.ref (G.2.2.2.1 27)]) (ro := (some (.int r_14))) (Y1 := Y) (V1 := V) C hH hl.1 (c_X9_isWord hr_13) mc_X9_isWord mv_X9_isWord lk_RX8_45 hs_8 rfl rfl ⟨rfl, rfl⟩ ⟨by decide, by decide⟩ rfl (Nat.le_of_ble_eq_true rfl) dX8_readLine_183 ⟨by decide, by decide⟩ (fun H locs hH => ?_)
          refine lv_if_eq (tgt := 211) hx hb dX8_readLine_186 (by decide) (fun hc_48 => ?_) (fun hc_48 => ?_)
          · rw [if_pos hc_48] at hq
            refine lv_aload_n hx hb dX8_readLine_211 rfl (lv_at hl 1 rfl) ?_
            refine bk_getr C hH fl_RX8_14 hs_3 rfl hr_5 dX8_readLine_212 ?_
            refine bk_ldcS C (i := 32) (tx := "try") rfl dX8_readLine_215 ?_
            obtain ⟨r_16, hr_15, hq⟩ := bk_bd_some hq
            refine bk_callV (rest := []) (As := [.ref (G.2.2.2.1 32)]) (ro := (some (.int r_16))) (Y1 := Y) (V1 := V) C hH hl.1 (c_X9_isWord hr_15) mc_X9_isWord mv_X9_isWord lk_RX8_45 hs_8 rfl rfl ⟨rfl, rfl⟩ ⟨by decide, by decide⟩ rfl (Nat.le_of_ble_eq_true rfl) dX8_readLine_217 ⟨by decide, by decide⟩ (fun H locs hH => ?_)
            refine lv_if_eq (tgt := 245) hx hb dX8_readLine_220 (by decide) (fun hc_39 => ?_) (fun hc_39 => ?_)
            · rw [if_pos hc_39] at hq
              refine lv_aload_n hx hb dX8_readLine_245 rfl (lv_at hl 1 rfl) ?_
              refine bk_getr C hH fl_RX8_14 hs_3 rfl hr_5 dX8_readLine_246 ?_
              refine bk_ldcS C (i := 33) (tx := "rider") rfl dX8_readLine_249 ?_
              obtain ⟨r_18, hr_17, hq⟩ := bk_bd_some hq
              refine bk_callV (rest := []) (As := [.ref (G.2.2.2.1 33)]) (ro := (some (.int r_18))) (Y1 := Y) (V1 := V) C hH hl.1 (c_X9_isWord hr_17) mc_X9_isWord mv_X9_isWord lk_RX8_45 hs_8 rfl rfl ⟨rfl, rfl⟩ ⟨by decide, by decide⟩ rfl (Nat.le_of_ble_eq_true rfl) dX8_readLine_251 ⟨by decide, by decide⟩ (fun H locs hH => ?_)
              refine lv_if_eq (tgt := 279) hx hb dX8_readLine_254 (by decide) (fun hc_30 => ?_) (fun hc_30 => ?_)
              · rw [if_pos hc_30] at hq
                refine lv_aload_n hx hb dX8_readLine_279 rfl (lv_at hl 1 rfl) ?_
                refine lv_iconst (v := 1) hx hb dX8_readLine_280 (by decide) ?_
                obtain ⟨r_20, V_21, hr_19, hq⟩ := bk_bd2_some hq
                refine bk_callV (rest := []) (As := [.int 1]) (ro := (some (.int r_20))) (Y1 := Y) (V1 := V_21) C hH hl.1 (c_X8_refuse hr_19) mc_X8_refuse mv_X8_refuse lk_RX8_71 hs_3 rfl rfl ⟨rfl, rfl⟩ ⟨by decide, by decide⟩ rfl (Nat.le_of_ble_eq_true rfl) dX8_readLine_281 ⟨by decide, by decide⟩ (fun H locs hH => ?_)
                obtain ⟨hz9, hq⟩ := bk_ck_some hq
                cases hq
                exact bk_zret C hH hz9 dX8_readLine_284
              · rw [if_neg hc_30] at hq
                refine lv_aload_n hx hb dX8_readLine_257 rfl (lv_at hl 1 rfl) ?_
                obtain ⟨r_23, V_24, hr_22, hq⟩ := bk_bd2_some hq
                refine bk_callV (rest := []) (As := []) (ro := (some (.int r_23))) (Y1 := Y) (V1 := V_24) C hH hl.1 (c_X8_readRider hr_22) mc_X8_readRider mv_X8_readRider lk_RX8_116 hs_3 rfl rfl ⟨rfl, rfl⟩ ⟨by decide, by decide⟩ rfl (Nat.le_of_ble_eq_true rfl) dX8_readLine_258 ⟨by decide, by decide⟩ (fun H locs hH => ?_)
                refine lv_if_eq (tgt := 277) hx hb dX8_readLine_261 (by decide) (fun hc_29 => ?_) (fun hc_29 => ?_)
                · rw [if_pos hc_29] at hq
                  refine lv_iconst (v := 0) hx hb dX8_readLine_277 (by decide) ?_
                  cases hq
                  exact bk_zret C hH (Or.inl rfl) dX8_readLine_278
                · rw [if_neg hc_29] at hq
                  refine lv_aload_n hx hb dX8_readLine_264 rfl (lv_at hl 1 rfl) ?_
                  refine lv_bipush (v := 59) hx hb dX8_readLine_265 (by decide) ?_
                  obtain ⟨r_26, V_27, hr_25, hq⟩ := bk_bd2_some hq
                  refine bk_callV (rest := []) (As := [.int 59]) (ro := (some (.int r_26))) (Y1 := Y) (V1 := V_27) C hH hl.1 (c_X8_readSign hr_25) mc_X8_readSign mv_X8_readSign lk_RX8_56 hs_3 rfl rfl ⟨rfl, rfl⟩ ⟨by decide, by decide⟩ rfl (Nat.le_of_ble_eq_true rfl) dX8_readLine_267 ⟨by decide, by decide⟩ (fun H locs hH => ?_)
                  refine lv_if_eq (tgt := 277) hx hb dX8_readLine_270 (by decide) (fun hc_28 => ?_) (fun hc_28 => ?_)
                  · rw [if_pos hc_28] at hq
                    refine lv_iconst (v := 0) hx hb dX8_readLine_277 (by decide) ?_
                    cases hq
                    exact bk_zret C hH (Or.inl rfl) dX8_readLine_278
                  · rw [if_neg hc_28] at hq
                    refine lv_iconst (v := 1) hx hb dX8_readLine_273 (by decide) ?_
                    refine lv_goto (tgt := 278) hx hb dX8_readLine_274 (by decide) ?_
                    cases hq
                    exact bk_zret C hH (Or.inr rfl) dX8_readLine_278
            · rw [if_neg hc_39] at hq
              refine lv_aload_n hx hb dX8_readLine_223 rfl (lv_at hl 1 rfl) ?_
              obtain ⟨r_32, V_33, hr_31, hq⟩ := bk_bd2_some hq
              refine bk_callV (rest := []) (As := []) (ro := (some (.int r_32))) (Y1 := Y) (V1 := V_33) C hH hl.1 (c_X8_readTry hr_31) mc_X8_readTry mv_X8_readTry lk_RX8_111 hs_3 rfl rfl ⟨rfl, rfl⟩ ⟨by decide, by decide⟩ rfl (Nat.le_of_ble_eq_true rfl) dX8_readLine_224 ⟨by decide, by decide⟩ (fun H locs hH => ?_)
              refine lv_if_eq (tgt := 243) hx hb dX8_readLine_227 (by decide) (fun hc_38 => ?_) (fun hc_38 => ?_)
              · rw [if_pos hc_38] at hq
                refine lv_iconst (v := 0) hx hb dX8_readLine_243 (by decide) ?_
                cases hq
                exact bk_zret C hH (Or.inl rfl) dX8_readLine_244
              · rw [if_neg hc_38] at hq
                refine lv_aload_n hx hb dX8_readLine_230 rfl (lv_at hl 1 rfl) ?_
                refine lv_bipush (v := 59) hx hb dX8_readLine_231 (by decide) ?_
                obtain ⟨r_35, V_36, hr_34, hq⟩ := bk_bd2_some hq
                refine bk_callV (rest := []) (As := [.int 59]) (ro := (some (.int r_35))) (Y1 := Y) (V1 := V_36) C hH hl.1 (c_X8_readSign hr_34) mc_X8_readSign mv_X8_readSign lk_RX8_56 hs_3 rfl rfl ⟨rfl, rfl⟩ ⟨by decide, by decide⟩ rfl (Nat.le_of_ble_eq_true rfl) dX8_readLine_233 ⟨by decide, by decide⟩ (fun H locs hH => ?_)
                refine lv_if_eq (tgt := 243) hx hb dX8_readLine_236 (by decide) (fun hc_37 => ?_) (fun hc_37 => ?_)
                · rw [if_pos hc_37] at hq
                  refine lv_iconst (v := 0) hx hb dX8_readLine_243 (by decide) ?_
                  cases hq
                  exact bk_zret C hH (Or.inl rfl) dX8_readLine_244
                · rw [if_neg hc_37] at hq
                  refine lv_iconst (v := 1) hx hb dX8_readLine_239 (by decide) ?_
                  refine lv_goto (tgt := 244) hx hb dX8_readLine_240 (by decide) ?_
                  cases hq
                  exact bk_zret C hH (Or.inr rfl) dX8_readLine_244
          · rw [if_neg hc_48] at hq
            refine lv_aload_n hx hb dX8_readLine_189 rfl (lv_at hl 1 rfl) ?_
            obtain ⟨r_41, V_42, hr_40, hq⟩ := bk_bd2_some hq
            refine bk_callV (rest := []) (As := []) (ro := (some (.int r_41))) (Y1 := Y) (V1 := V_42) C hH hl.1 (c_X8_readCause hr_40) mc_X8_readCause mv_X8_readCause lk_RX8_106 hs_3 rfl rfl ⟨rfl, rfl⟩ ⟨by decide, by decide⟩ rfl (Nat.le_of_ble_eq_true rfl) dX8_readLine_190 ⟨by decide, by decide⟩ (fun H locs hH => ?_)
            refine lv_if_eq (tgt := 209) hx hb dX8_readLine_193 (by decide) (fun hc_47 => ?_) (fun hc_47 => ?_)
            · rw [if_pos hc_47] at hq
              refine lv_iconst (v := 0) hx hb dX8_readLine_209 (by decide) ?_
              cases hq
              exact bk_zret C hH (Or.inl rfl) dX8_readLine_210
            · rw [if_neg hc_47] at hq
              refine lv_aload_n hx hb dX8_readLine_196 rfl (lv_at hl 1 rfl) ?_
              refine lv_bipush (v := 59) hx hb dX8_readLine_197 (by decide) ?_
              obtain ⟨r_44, V_45, hr_43, hq⟩ := bk_bd2_some hq
              refine bk_callV (rest := []) (As := [.int 59]) (ro := (some (.int r_44))) (Y1 := Y) (V1 := V_45) C hH hl.1 (c_X8_readSign hr_43) mc_X8_readSign mv_X8_readSign lk_RX8_56 hs_3 rfl rfl ⟨rfl, rfl⟩ ⟨by decide, by decide⟩ rfl (Nat.le_of_ble_eq_true rfl) dX8_readLine_199 ⟨by decide, by decide⟩ (fun H locs hH => ?_)
              refine lv_if_eq (tgt := 209) hx hb dX8_readLine_202 (by decide) (fun hc_46 => ?_) (fun hc_46 => ?_)
              · rw [if_pos hc_46] at hq
                refine lv_iconst (v := 0) hx hb dX8_readLine_209 (by decide) ?_
                cases hq
                exact bk_zret C hH (Or.inl rfl) dX8_readLine_210
              · rw [if_neg hc_46] at hq
                refine lv_iconst (v := 1) hx hb dX8_readLine_205 (by decide) ?_
                refine lv_goto (tgt := 210) hx hb dX8_readLine_206 (by decide) ?_
                cases hq
                exact bk_zret C hH (Or.inr rfl) dX8_readLine_210
        · rw [if_neg hc_57] at hq
          refine lv_aload_n hx hb dX8_readLine_155 rfl (lv_at hl 1 rfl) ?_
          obtain ⟨r_50, V_51, hr_49, hq⟩ := bk_bd2_some hq
          refine bk_callV (rest := []) (As := []) (ro := (some (.int r_50))) (Y1 := Y) (V1 := V_51) C hH hl.1 (c_X8_readHole hr_49) mc_X8_readHole mv_X8_readHole lk_RX8_101 hs_3 rfl rfl ⟨rfl, rfl⟩ ⟨by decide, by decide⟩ rfl (Nat.le_of_ble_eq_true rfl) dX8_readLine_156 ⟨by decide, by decide⟩ (fun H locs hH => ?_)
          refine lv_if_eq (tgt := 175) hx hb dX8_readLine_159 (by decide) (fun hc_56 => ?_) (fun hc_56 => ?_)
          · rw [if_pos hc_56] at hq
            refine lv_iconst (v := 0) hx hb dX8_readLine_175 (by decide) ?_
            cases hq
            exact bk_zret C hH (Or.inl rfl) dX8_readLine_176
          · rw [if_neg hc_56] at hq
            refine lv_aload_n hx hb dX8_readLine_162 rfl (lv_at hl 1 rfl) ?_
            refine lv_bipush (v := 59) hx hb dX8_readLine_163 (by decide) ?_
            obtain ⟨r_53, V_54, hr_52, hq⟩ := bk_bd2_some hq
            refine bk_callV (rest := []) (As := [.int 59]) (ro := (some (.int r_53))) (Y1 := Y) (V1 := V_54) C hH hl.1 (c_X8_readSign hr_52) mc_X8_readSign mv_X8_readSign lk_RX8_56 hs_3 rfl rfl ⟨rfl, rfl⟩ ⟨by decide, by decide⟩ rfl (Nat.le_of_ble_eq_true rfl) dX8_readLine_165 ⟨by decide, by decide⟩ (fun H locs hH => ?_)
            refine lv_if_eq (tgt := 175) hx hb dX8_readLine_168 (by decide) (fun hc_55 => ?_) (fun hc_55 => ?_)
            · rw [if_pos hc_55] at hq
              refine lv_iconst (v := 0) hx hb dX8_readLine_175 (by decide) ?_
              cases hq
              exact bk_zret C hH (Or.inl rfl) dX8_readLine_176
            · rw [if_neg hc_55] at hq
              refine lv_iconst (v := 1) hx hb dX8_readLine_171 (by decide) ?_
              refine lv_goto (tgt := 176) hx hb dX8_readLine_172 (by decide) ?_
              cases hq
              exact bk_zret C hH (Or.inr rfl) dX8_readLine_176
      · rw [if_neg hc_75] at hq
        refine lv_aload_n hx hb dX8_readLine_104 rfl (lv_at hl 1 rfl) ?_
        refine lv_bipush (v := 9) hx hb dX8_readLine_105 (by decide) ?_
        obtain ⟨r_59, V_60, hr_58, hq⟩ := bk_bd2_some hq
        refine bk_callV (rest := []) (As := [.int 9]) (ro := (some (.int r_59))) (Y1 := Y) (V1 := V_60) C hH hl.1 (c_X8_readOnce hr_58) mc_X8_readOnce mv_X8_readOnce lk_RX8_81 hs_3 rfl rfl ⟨rfl, rfl⟩ ⟨by decide, by decide⟩ rfl (Nat.le_of_ble_eq_true rfl) dX8_readLine_107 ⟨by decide, by decide⟩ (fun H locs hH => ?_)
        refine lv_if_eq (tgt := 141) hx hb dX8_readLine_110 (by decide) (fun hc_74 => ?_) (fun hc_74 => ?_)
        · rw [if_pos hc_74] at hq
          refine lv_iconst (v := 0) hx hb dX8_readLine_141 (by decide) ?_
          cases hq
          exact bk_zret C hH (Or.inl rfl) dX8_readLine_142
        · rw [if_neg hc_74] at hq
          refine lv_aload_n hx hb dX8_readLine_113 rfl (lv_at hl 1 rfl) ?_
          refine lv_aload_n hx hb dX8_readLine_114 rfl (lv_at hl 1 rfl) ?_
          obtain ⟨b_61, hr_62, hq⟩ := bk_bd_some hq
          refine bk_getr C hH fl_RX8_20 hs_3 rfl hr_62 dX8_readLine_115 ?_
          obtain ⟨hs_63, hq⟩ := bk_ck_some hq
          obtain ⟨b_64, hr_65, hq⟩ := bk_bd_some hq
          refine bk_getr C hH fl_RX8_96 hs_63 rfl hr_65 dX8_readLine_118 ?_
          refine lv_iconst (v := 0) hx hb dX8_readLine_121 (by decide) ?_
          obtain ⟨r_67, V_68, hr_66, hq⟩ := bk_bd2_some hq
          refine bk_callV (rest := []) (As := [.ref b_64, .int 0]) (ro := (some (.int r_67))) (Y1 := Y) (V1 := V_68) C hH hl.1 (c_X8_readExpr hr_66) mc_X8_readExpr mv_X8_readExpr lk_RX8_90 hs_3 rfl rfl ⟨rfl, rfl⟩ ⟨by decide, by decide⟩ rfl (Nat.le_of_ble_eq_true rfl) dX8_readLine_122 ⟨by decide, by decide⟩ (fun H locs hH => ?_)
          refine lv_if_eq (tgt := 141) hx hb dX8_readLine_125 (by decide) (fun hc_73 => ?_) (fun hc_73 => ?_)
          · rw [if_pos hc_73] at hq
            refine lv_iconst (v := 0) hx hb dX8_readLine_141 (by decide) ?_
            cases hq
            exact bk_zret C hH (Or.inl rfl) dX8_readLine_142
          · rw [if_neg hc_73] at hq
            refine lv_aload_n hx hb dX8_readLine_128 rfl (lv_at hl 1 rfl) ?_
            refine lv_bipush (v := 59) hx hb dX8_readLine_129 (by decide) ?_
            obtain ⟨r_70, V_71, hr_69, hq⟩ := bk_bd2_some hq
            refine bk_callV (rest := []) (As := [.int 59]) (ro := (some (.int r_70))) (Y1 := Y) (V1 := V_71) C hH hl.1 (c_X8_readSign hr_69) mc_X8_readSign mv_X8_readSign lk_RX8_56 hs_3 rfl rfl ⟨rfl, rfl⟩ ⟨by decide, by decide⟩ rfl (Nat.le_of_ble_eq_true rfl) dX8_readLine_131 ⟨by decide, by decide⟩ (fun H locs hH => ?_)
            refine lv_if_eq (tgt := 141) hx hb dX8_readLine_134 (by decide) (fun hc_72 => ?_) (fun hc_72 => ?_)
            · rw [if_pos hc_72] at hq
              refine lv_iconst (v := 0) hx hb dX8_readLine_141 (by decide) ?_
              cases hq
              exact bk_zret C hH (Or.inl rfl) dX8_readLine_142
            · rw [if_neg hc_72] at hq
              refine lv_iconst (v := 1) hx hb dX8_readLine_137 (by decide) ?_
              refine lv_goto (tgt := 142) hx hb dX8_readLine_138 (by decide) ?_
              cases hq
              exact bk_zret C hH (Or.inr rfl) dX8_readLine_142
    · rw [if_neg hc_93] at hq
      refine lv_aload_n hx hb dX8_readLine_53 rfl (lv_at hl 1 rfl) ?_
      refine lv_bipush (v := 8) hx hb dX8_readLine_54 (by decide) ?_
      obtain ⟨r_77, V_78, hr_76, hq⟩ := bk_bd2_some hq
      refine bk_callV (rest := []) (As := [.int 8]) (ro := (some (.int r_77))) (Y1 := Y) (V1 := V_78) C hH hl.1 (c_X8_readOnce hr_76) mc_X8_readOnce mv_X8_readOnce lk_RX8_81 hs_3 rfl rfl ⟨rfl, rfl⟩ ⟨by decide, by decide⟩ rfl (Nat.le_of_ble_eq_true rfl) dX8_readLine_56 ⟨by decide, by decide⟩ (fun H locs hH => ?_)
      refine lv_if_eq (tgt := 90) hx hb dX8_readLine_59 (by decide) (fun hc_92 => ?_) (fun hc_92 => ?_)
      · rw [if_pos hc_92] at hq
        refine lv_iconst (v := 0) hx hb dX8_readLine_90 (by decide) ?_
        cases hq
        exact bk_zret C hH (Or.inl rfl) dX8_readLine_91
      · rw [if_neg hc_92] at hq
        refine lv_aload_n hx hb dX8_readLine_62 rfl (lv_at hl 1 rfl) ?_
        refine lv_aload_n hx hb dX8_readLine_63 rfl (lv_at hl 1 rfl) ?_
        obtain ⟨b_79, hr_80, hq⟩ := bk_bd_some hq
        refine bk_getr C hH fl_RX8_20 hs_3 rfl hr_80 dX8_readLine_64 ?_
        obtain ⟨hs_81, hq⟩ := bk_ck_some hq
        obtain ⟨b_82, hr_83, hq⟩ := bk_bd_some hq
        refine bk_getr C hH fl_RX8_86 hs_81 rfl hr_83 dX8_readLine_67 ?_
        refine lv_iconst (v := 0) hx hb dX8_readLine_70 (by decide) ?_
        obtain ⟨r_85, V_86, hr_84, hq⟩ := bk_bd2_some hq
        refine bk_callV (rest := []) (As := [.ref b_82, .int 0]) (ro := (some (.int r_85))) (Y1 := Y) (V1 := V_86) C hH hl.1 (c_X8_readExpr hr_84) mc_X8_readExpr mv_X8_readExpr lk_RX8_90 hs_3 rfl rfl ⟨rfl, rfl⟩ ⟨by decide, by decide⟩ rfl (Nat.le_of_ble_eq_true rfl) dX8_readLine_71 ⟨by decide, by decide⟩ (fun H locs hH => ?_)
        refine lv_if_eq (tgt := 90) hx hb dX8_readLine_74 (by decide) (fun hc_91 => ?_) (fun hc_91 => ?_)
        · rw [if_pos hc_91] at hq
          refine lv_iconst (v := 0) hx hb dX8_readLine_90 (by decide) ?_
          cases hq
          exact bk_zret C hH (Or.inl rfl) dX8_readLine_91
        · rw [if_neg hc_91] at hq
          refine lv_aload_n hx hb dX8_readLine_77 rfl (lv_at hl 1 rfl) ?_
          refine lv_bipush (v := 59) hx hb dX8_readLine_78 (by decide) ?_
          obtain ⟨r_88, V_89, hr_87, hq⟩ := bk_bd2_some hq
          refine bk_callV (rest := []) (As := [.int 59]) (ro := (some (.int r_88))) (Y1 := Y) (V1 := V_89) C hH hl.1 (c_X8_readSign hr_87) mc_X8_readSign mv_X8_readSign lk_RX8_56 hs_3 rfl rfl ⟨rfl, rfl⟩ ⟨by decide, by decide⟩ rfl (Nat.le_of_ble_eq_true rfl) dX8_readLine_80 ⟨by decide, by decide⟩ (fun H locs hH => ?_)
          refine lv_if_eq (tgt := 90) hx hb dX8_readLine_83 (by decide) (fun hc_90 => ?_) (fun hc_90 => ?_)
          · rw [if_pos hc_90] at hq
            refine lv_iconst (v := 0) hx hb dX8_readLine_90 (by decide) ?_
            cases hq
            exact bk_zret C hH (Or.inl rfl) dX8_readLine_91
          · rw [if_neg hc_90] at hq
            refine lv_iconst (v := 1) hx hb dX8_readLine_86 (by decide) ?_
            refine lv_goto (tgt := 91) hx hb dX8_readLine_87 (by decide) ?_
            cases hq
            exact bk_zret C hH (Or.inr rfl) dX8_readLine_91
  · rw [if_neg hc_106] at hq
    refine lv_aload_n hx hb dX8_readLine_10 rfl (lv_at hl 1 rfl) ?_
    refine lv_iload_n hx hb dX8_readLine_11 rfl (lv_at hl 0 rfl) ?_
    obtain ⟨r_95, V_96, hr_94, hq⟩ := bk_bd2_some hq
    refine bk_callV (rest := []) (As := [.int r_2]) (ro := (some (.int r_95))) (Y1 := Y) (V1 := V_96) C hH hl.1 (c_X8_readOnce hr_94) mc_X8_readOnce mv_X8_readOnce lk_RX8_81 hs_3 rfl rfl ⟨rfl, rfl⟩ ⟨by decide, by decide⟩ rfl (Nat.le_of_ble_eq_true rfl) dX8_readLine_12 ⟨by decide, by decide⟩ (fun H locs hH => ?_)
    refine lv_if_eq (tgt := 39) hx hb dX8_readLine_15 (by decide) (fun hc_105 => ?_) (fun hc_105 => ?_)
    · rw [if_pos hc_105] at hq
      refine lv_iconst (v := 0) hx hb dX8_readLine_39 (by decide) ?_
      cases hq
      exact bk_zret C hH (Or.inl rfl) dX8_readLine_40
    · rw [if_neg hc_105] at hq
      refine lv_aload_n hx hb dX8_readLine_18 rfl (lv_at hl 1 rfl) ?_
      refine lv_iload_n hx hb dX8_readLine_19 rfl (lv_at hl 0 rfl) ?_
      obtain ⟨r_98, V_99, hr_97, hq⟩ := bk_bd2_some hq
      refine bk_callV (rest := []) (As := [.int r_2]) (ro := (some (.int r_98))) (Y1 := Y) (V1 := V_99) C hH hl.1 (c_X8_readSettings hr_97) mc_X8_readSettings mv_X8_readSettings lk_RX8_52 hs_3 rfl rfl ⟨rfl, rfl⟩ ⟨by decide, by decide⟩ rfl (Nat.le_of_ble_eq_true rfl) dX8_readLine_20 ⟨by decide, by decide⟩ (fun H locs hH => ?_)
      refine lv_if_eq (tgt := 39) hx hb dX8_readLine_23 (by decide) (fun hc_104 => ?_) (fun hc_104 => ?_)
      · rw [if_pos hc_104] at hq
        refine lv_iconst (v := 0) hx hb dX8_readLine_39 (by decide) ?_
        cases hq
        exact bk_zret C hH (Or.inl rfl) dX8_readLine_40
      · rw [if_neg hc_104] at hq
        refine lv_aload_n hx hb dX8_readLine_26 rfl (lv_at hl 1 rfl) ?_
        refine lv_bipush (v := 59) hx hb dX8_readLine_27 (by decide) ?_
        obtain ⟨r_101, V_102, hr_100, hq⟩ := bk_bd2_some hq
        refine bk_callV (rest := []) (As := [.int 59]) (ro := (some (.int r_101))) (Y1 := Y) (V1 := V_102) C hH hl.1 (c_X8_readSign hr_100) mc_X8_readSign mv_X8_readSign lk_RX8_56 hs_3 rfl rfl ⟨rfl, rfl⟩ ⟨by decide, by decide⟩ rfl (Nat.le_of_ble_eq_true rfl) dX8_readLine_29 ⟨by decide, by decide⟩ (fun H locs hH => ?_)
        refine lv_if_eq (tgt := 39) hx hb dX8_readLine_32 (by decide) (fun hc_103 => ?_) (fun hc_103 => ?_)
        · rw [if_pos hc_103] at hq
          refine lv_iconst (v := 0) hx hb dX8_readLine_39 (by decide) ?_
          cases hq
          exact bk_zret C hH (Or.inl rfl) dX8_readLine_40
        · rw [if_neg hc_103] at hq
          refine lv_iconst (v := 1) hx hb dX8_readLine_35 (by decide) ?_
          refine lv_goto (tgt := 40) hx hb dX8_readLine_36 (by decide) ?_
          cases hq
          exact bk_zret C hH (Or.inr rfl) dX8_readLine_40
set_option maxRecDepth 100000 in
theorem c_X8_readLine {l : Launch} {G : bk_G} {N : Nat} {Y : bk_Lay} {V : bk_Val} {a0 : Nat} {out : Int32 × bk_Val} (hq : q_X8_readLine N Y V a0 = some out) : Met l yX8_readLine (bk_ws yX8_readLine cX8_readLine 2 (some FieldType.boolean)) rm_X8_readLine (bk_Pc G [.ref a0] Y V) (bk_Q G (some (.int out.1)) Y out.2) 0 0 (bk_A G) :=
  bk_met (by decide) (Nat.le_of_ble_eq_true rfl) (fun p e s m args below meth c ls C hnm hH hl => w_X8_readLine C _ _ _ _ _ _ hl hH hq)

def rm_X1_all : Room := bk_rm 0 0 0 0
set_option maxRecDepth 100000 in
set_option maxHeartbeats 4000000 in
theorem w_X1_all (C : bk_C G p s m args meth c cX1_all RX1 1 (some FieldType.int)) : ∀ (V : bk_Val) (a0 : Nat) (H : Heap) (locs : List Loc) (ls : Array Slot) (out : Int32), lv_has ls 1 [(0, .ref a0)] → bk_H G Y V s.heap H locs → q_X1_all N Y V a0 = some out → W p l e rm_X1_all s m args below meth c H locs 0 0 (MQ below (bk_Q G (some (.int out)) Y V) args s 0 0 (bk_A G)) (F0 m 0 ls []) := by
  have hx := C.1
  have hb := C.2.1
  intro V a0 H locs ls out hl hH hq
  unfold q_X1_all at hq
  refine lv_iconst (v := 1) hx hb dX1_all_0 (by decide) ?_
  refine lv_aload_n hx hb dX1_all_1 rfl (lv_at hl 0 rfl) ?_
  obtain ⟨hs_1, hq⟩ := bk_ck_some hq
  refine bk_geti C hH fl_RX1_21 hs_1 rfl dX1_all_2 ?_
  refine bk_ishl hx hb dX1_all_5 ?_
  refine lv_iconst (v := 1) hx hb dX1_all_6 (by decide) ?_
  refine lv_isub hx hb dX1_all_7 ?_
  cases hq
  exact bk_iret C hH dX1_all_8
set_option maxRecDepth 100000 in
theorem c_X1_all {l : Launch} {G : bk_G} {N : Nat} {Y : bk_Lay} {V : bk_Val} {a0 : Nat} {out : Int32} (hq : q_X1_all N Y V a0 = some out) : Met l yX1_all (bk_ws yX1_all cX1_all 1 (some FieldType.int)) rm_X1_all (bk_Pc G [.ref a0] Y V) (bk_Q G (some (.int out)) Y V) 0 0 (bk_A G) :=
  bk_met (by decide) (Nat.le_of_ble_eq_true rfl) (fun p e s m args below meth c ls C hnm hH hl => w_X1_all C _ _ _ _ _ _ hl hH hq)

def rm_X6_init : Room := bk_rm 1 0 0 24
set_option maxRecDepth 100000 in
set_option maxHeartbeats 4000000 in
theorem w_X6_init (C : bk_C G p s m args meth c cX6_init RX6 6 (none : Option FieldType)) (hnm : meth.name = "<init>") : ∀ (Y : bk_Lay) (V : bk_Val) (a0 : Nat) (a1 : Nat) (x2 : Int32) (x3 : Int32) (x4 : Int32) (a5 : Nat) (H : Heap) (locs : List Loc) (ls : Array Slot) (out : bk_Lay × bk_Val), lv_has ls 6 [(0, .ref a0), (1, .ref a1), (2, .int x2), (3, .int x3), (4, .int x4), (5, .ref a5)] → bk_H G Y V s.heap H locs → q_X6_init N Y V a0 a1 x2 x3 x4 a5 = some out → W p l e rm_X6_init s m args below meth c H locs 0 0 (MQ below (bk_Q G none out.1 out.2) args s 0 0 (bk_A G)) (F0 m 0 ls []) := by
  have hx := C.1
  have hb := C.2.1
  intro Y V a0 a1 x2 x3 x4 a5 H locs ls out hl hH hq
  unfold q_X6_init at hq
  refine lv_aload_n hx hb dX6_init_0 rfl (lv_at hl 0 rfl) ?_
  refine bk_obin C hl.1 oi_RX6 oj ok_obj dX6_init_1 (by decide) (by decide) ?_
  refine lv_aload_n hx hb dX6_init_4 rfl (lv_at hl 0 rfl) ?_
  refine lv_aload_n hx hb dX6_init_5 rfl (lv_at hl 1 rfl) ?_
  obtain ⟨hs_1, hq⟩ := bk_ck_some hq
  refine bk_putr C hH fp_RX6_7 (fun _ => hnm) hs_1 rfl rfl rfl dX6_init_6 (fun Y_2 H locs e_3 hH => ?_)
  have hq := bk_let_eq e_3 hq
  refine lv_aload_n hx hb dX6_init_9 rfl (lv_at hl 0 rfl) ?_
  refine lv_iload_n hx hb dX6_init_10 rfl (lv_at hl 2 rfl) ?_
  refine bk_puti C hH fp_RX6_13 (fun _ => hnm) (by rw [e_3]; exact hs_1) rfl dX6_init_11 (fun V_4 H locs e_5 hH => ?_)
  have hq := bk_let_eq e_5 hq
  refine lv_aload_n hx hb dX6_init_14 rfl (lv_at hl 0 rfl) ?_
  refine lv_iload_n hx hb dX6_init_15 rfl (lv_at hl 3 rfl) ?_
  refine bk_puti C hH fp_RX6_17 (fun _ => hnm) (by rw [e_3]; exact hs_1) rfl dX6_init_16 (fun V_6 H locs e_7 hH => ?_)
  have hq := bk_let_eq e_7 hq
  refine lv_aload_n hx hb dX6_init_19 rfl (lv_at hl 0 rfl) ?_
  refine lv_iload hx hb dX6_init_20 (lv_at hl 4 rfl) ?_
  refine bk_puti C hH fp_RX6_20 (fun _ => hnm) (by rw [e_3]; exact hs_1) rfl dX6_init_22 (fun V_8 H locs e_9 hH => ?_)
  have hq := bk_let_eq e_9 hq
  refine lv_aload_n hx hb dX6_init_25 rfl (lv_at hl 0 rfl) ?_
  refine lv_aload hx hb dX6_init_26 (lv_at hl 5 rfl) ?_
  refine bk_putr C hH fp_RX6_23 (fun _ => hnm) (by rw [e_3]; exact hs_1) rfl rfl rfl dX6_init_28 (fun Y_10 H locs e_11 hH => ?_)
  have hq := bk_let_eq e_11 hq
  cases hq
  exact bk_vret C hH dX6_init_31
set_option maxRecDepth 100000 in
theorem c_X6_init {l : Launch} {G : bk_G} {N : Nat} {Y : bk_Lay} {V : bk_Val} {a0 : Nat} {a1 : Nat} {x2 : Int32} {x3 : Int32} {x4 : Int32} {a5 : Nat} {out : bk_Lay × bk_Val} (hq : q_X6_init N Y V a0 a1 x2 x3 x4 a5 = some out) : Met l yX6_init (bk_ws yX6_init cX6_init 6 (none : Option FieldType)) rm_X6_init (bk_Pc G [.ref a0, .ref a1, .int x2, .int x3, .int x4, .ref a5] Y V) (bk_Q G none out.1 out.2) 0 0 (bk_A G) :=
  bk_met (by decide) (Nat.le_of_ble_eq_true rfl) (fun p e s m args below meth c ls C hnm hH hl => w_X6_init C hnm _ _ _ _ _ _ _ _ _ _ _ _ hl hH hq)

set_option maxRecDepth 100000 in
set_option maxHeartbeats 4000000 in
theorem w_X6_init_n (C : bk_C G p s m args meth c cX6_init RX6 6 (none : Option FieldType)) (hnm : meth.name = "<init>") : ∀ (Y : bk_Lay) (V : bk_Val) (a0 : Nat) (x2 : Int32) (x3 : Int32) (x4 : Int32) (a5 : Nat) (H : Heap) (locs : List Loc) (ls : Array Slot) (out : bk_Lay × bk_Val), lv_has ls 6 [(0, .ref a0), (1, .null), (2, .int x2), (3, .int x3), (4, .int x4), (5, .ref a5)] → bk_H G Y V s.heap H locs → q_X6_init_n N Y V a0 x2 x3 x4 a5 = some out → W p l e rm_X6_init s m args below meth c H locs 0 0 (MQ below (bk_Q G none out.1 out.2) args s 0 0 (bk_A G)) (F0 m 0 ls []) := by
  have hx := C.1
  have hb := C.2.1
  intro Y V a0 x2 x3 x4 a5 H locs ls out hl hH hq
  unfold q_X6_init_n at hq
  refine lv_aload_n hx hb dX6_init_0 rfl (lv_at hl 0 rfl) ?_
  refine bk_obin C hl.1 oi_RX6 oj ok_obj dX6_init_1 (by decide) (by decide) ?_
  refine lv_aload_n hx hb dX6_init_4 rfl (lv_at hl 0 rfl) ?_
  refine lv_aload_nN hx hb dX6_init_5 rfl (lv_at hl 1 rfl) ?_
  obtain ⟨hs_1, hq⟩ := bk_ck_some hq
  refine bk_putn C hH fp_RX6_7 (fun _ => hnm) hs_1 rfl rfl rfl dX6_init_6 (fun Y_2 H locs e_3 hH => ?_)
  have hq := bk_let_eq e_3 hq
  refine lv_aload_n hx hb dX6_init_9 rfl (lv_at hl 0 rfl) ?_
  refine lv_iload_n hx hb dX6_init_10 rfl (lv_at hl 2 rfl) ?_
  refine bk_puti C hH fp_RX6_13 (fun _ => hnm) (by rw [e_3]; exact hs_1) rfl dX6_init_11 (fun V_4 H locs e_5 hH => ?_)
  have hq := bk_let_eq e_5 hq
  refine lv_aload_n hx hb dX6_init_14 rfl (lv_at hl 0 rfl) ?_
  refine lv_iload_n hx hb dX6_init_15 rfl (lv_at hl 3 rfl) ?_
  refine bk_puti C hH fp_RX6_17 (fun _ => hnm) (by rw [e_3]; exact hs_1) rfl dX6_init_16 (fun V_6 H locs e_7 hH => ?_)
  have hq := bk_let_eq e_7 hq
  refine lv_aload_n hx hb dX6_init_19 rfl (lv_at hl 0 rfl) ?_
  refine lv_iload hx hb dX6_init_20 (lv_at hl 4 rfl) ?_
  refine bk_puti C hH fp_RX6_20 (fun _ => hnm) (by rw [e_3]; exact hs_1) rfl dX6_init_22 (fun V_8 H locs e_9 hH => ?_)
  have hq := bk_let_eq e_9 hq
  refine lv_aload_n hx hb dX6_init_25 rfl (lv_at hl 0 rfl) ?_
  refine lv_aload hx hb dX6_init_26 (lv_at hl 5 rfl) ?_
  refine bk_putr C hH fp_RX6_23 (fun _ => hnm) (by rw [e_3]; exact hs_1) rfl rfl rfl dX6_init_28 (fun Y_10 H locs e_11 hH => ?_)
  have hq := bk_let_eq e_11 hq
  cases hq
  exact bk_vret C hH dX6_init_31
set_option maxRecDepth 100000 in
theorem c_X6_init_n {l : Launch} {G : bk_G} {N : Nat} {Y : bk_Lay} {V : bk_Val} {a0 : Nat} {x2 : Int32} {x3 : Int32} {x4 : Int32} {a5 : Nat} {out : bk_Lay × bk_Val} (hq : q_X6_init_n N Y V a0 x2 x3 x4 a5 = some out) : Met l yX6_init (bk_ws yX6_init cX6_init 6 (none : Option FieldType)) rm_X6_init (bk_Pc G [.ref a0, .null, .int x2, .int x3, .int x4, .ref a5] Y V) (bk_Q G none out.1 out.2) 0 0 (bk_A G) :=
  bk_met (by decide) (Nat.le_of_ble_eq_true rfl) (fun p e s m args below meth c ls C hnm hH hl => w_X6_init_n C hnm _ _ _ _ _ _ _ _ _ _ _ hl hH hq)

def rm_X5_isFlank : Room := bk_rm 0 0 0 0
set_option maxRecDepth 100000 in
set_option maxHeartbeats 4000000 in
theorem w_X5_isFlank (C : bk_C G p s m args meth c cX5_isFlank RX5 1 (some FieldType.boolean)) : ∀ (V : bk_Val) (x0 : Int32) (H : Heap) (locs : List Loc) (ls : Array Slot) (out : Int32), lv_has ls 1 [(0, .int x0)] → bk_H G Y V s.heap H locs → q_X5_isFlank N Y V x0 = some out → W p l e rm_X5_isFlank s m args below meth c H locs 0 0 (MQ below (bk_Q G (some (.int out)) Y V) args s 0 0 (bk_A G)) (F0 m 0 ls []) := by
  have hx := C.1
  have hb := C.2.1
  intro V x0 H locs ls out hl hH hq
  unfold q_X5_isFlank at hq
  refine lv_iload_n hx hb dX5_isFlank_0 rfl (lv_at hl 0 rfl) ?_
  refine lv_if_eq (tgt := 13) hx hb dX5_isFlank_1 (by decide) (fun hc_2 => ?_) (fun hc_2 => ?_)
  · rw [if_pos hc_2] at hq
    refine lv_iconst (v := 0) hx hb dX5_isFlank_13 (by decide) ?_
    cases hq
    exact bk_zret C hH (Or.inl rfl) dX5_isFlank_14
  · rw [if_neg hc_2] at hq
    refine lv_iload_n hx hb dX5_isFlank_4 rfl (lv_at hl 0 rfl) ?_
    refine lv_iconst (v := 3) hx hb dX5_isFlank_5 (by decide) ?_
    refine lv_icmp_eq (tgt := 13) hx hb dX5_isFlank_6 (by decide) (fun hc_1 => ?_) (fun hc_1 => ?_)
    · rw [if_pos hc_1] at hq
      refine lv_iconst (v := 0) hx hb dX5_isFlank_13 (by decide) ?_
      cases hq
      exact bk_zret C hH (Or.inl rfl) dX5_isFlank_14
    · rw [if_neg hc_1] at hq
      refine lv_iconst (v := 1) hx hb dX5_isFlank_9 (by decide) ?_
      refine lv_goto (tgt := 14) hx hb dX5_isFlank_10 (by decide) ?_
      cases hq
      exact bk_zret C hH (Or.inr rfl) dX5_isFlank_14
set_option maxRecDepth 100000 in
theorem c_X5_isFlank {l : Launch} {G : bk_G} {N : Nat} {Y : bk_Lay} {V : bk_Val} {x0 : Int32} {out : Int32} (hq : q_X5_isFlank N Y V x0 = some out) : Met l yX5_isFlank (bk_ws yX5_isFlank cX5_isFlank 1 (some FieldType.boolean)) rm_X5_isFlank (bk_Pc G [.int x0] Y V) (bk_Q G (some (.int out)) Y V) 0 0 (bk_A G) :=
  bk_met (by decide) (Nat.le_of_ble_eq_true rfl) (fun p e s m args below meth c ls C hnm hH hl => w_X5_isFlank C _ _ _ _ _ _ hl hH hq)

def rm_X5_mayMake : Room := bk_rm 1 0 0 20
set_option maxRecDepth 100000 in
set_option maxHeartbeats 4000000 in
theorem w_X5_mayMake (C : bk_C G p s m args meth c cX5_mayMake RX5 3 (some FieldType.boolean)) : ∀ (V : bk_Val) (x0 : Int32) (x1 : Int32) (x2 : Int32) (H : Heap) (locs : List Loc) (ls : Array Slot) (out : Int32), lv_has ls 3 [(0, .int x0), (1, .int x1), (2, .int x2)] → bk_H G Y V s.heap H locs → q_X5_mayMake N Y V x0 x1 x2 = some out → W p l e rm_X5_mayMake s m args below meth c H locs 0 0 (MQ below (bk_Q G (some (.int out)) Y V) args s 0 0 (bk_A G)) (F0 m 0 ls []) := by
  have hx := C.1
  have hb := C.2.1
  intro V x0 x1 x2 H locs ls out hl hH hq
  unfold q_X5_mayMake at hq
  refine lv_iload_n hx hb dX5_mayMake_0 rfl (lv_at hl 0 rfl) ?_
  refine lv_topi (fun sw_1 e_2 => ?_)
  have hq := bk_let_eq e_2 hq
  by_cases hc_4 : sw_1 = 0
  · rw [if_pos hc_4] at hq
    refine lv_tableIn (off := 27) (tgt := 28) hx hb dX5_mayMake_1 (by rw [hc_4]; decide) (by rw [hc_4]; decide) (by rw [hc_4]; decide) (by decide) ?_
    refine lv_iload_n hx hb dX5_mayMake_28 rfl (lv_at hl 2 rfl) ?_
    refine lv_if_ne (tgt := 36) hx hb dX5_mayMake_29 (by decide) (fun hc_3 => ?_) (fun hc_3 => ?_)
    · rw [if_neg hc_3] at hq
      refine lv_iconst (v := 0) hx hb dX5_mayMake_36 (by decide) ?_
      cases hq
      exact bk_zret C hH (Or.inl rfl) dX5_mayMake_37
    · rw [if_pos hc_3] at hq
      refine lv_iconst (v := 1) hx hb dX5_mayMake_32 (by decide) ?_
      refine lv_goto (tgt := 37) hx hb dX5_mayMake_33 (by decide) ?_
      cases hq
      exact bk_zret C hH (Or.inr rfl) dX5_mayMake_37
  · rw [if_neg hc_4] at hq
    by_cases hc_7 : sw_1 = 1
    · rw [if_pos hc_7] at hq
      refine lv_tableIn (off := 37) (tgt := 38) hx hb dX5_mayMake_1 (by rw [hc_7]; decide) (by rw [hc_7]; decide) (by rw [hc_7]; decide) (by decide) ?_
      refine lv_iload_n hx hb dX5_mayMake_38 rfl (lv_at hl 2 rfl) ?_
      obtain ⟨r_6, hr_5, hq⟩ := bk_bd_some hq
      refine bk_callS (rest := []) (As := [.int x2]) (ro := (some (.int r_6))) (Y1 := Y) (V1 := V) C hH hl.1 (c_X5_isFlank hr_5) mc_X5_isFlank st_X5_isFlank lk_RX5_82 rfl ⟨rfl, rfl⟩ ⟨by decide, by decide⟩ rfl (Nat.le_of_ble_eq_true rfl) dX5_mayMake_39 ⟨by decide, by decide⟩ (fun H locs hH => ?_)
      obtain ⟨hz9, hq⟩ := bk_ck_some hq
      cases hq
      exact bk_zret C hH hz9 dX5_mayMake_42
    · rw [if_neg hc_7] at hq
      by_cases hc_9 : sw_1 = 2
      · rw [if_pos hc_9] at hq
        refine lv_tableIn (off := 42) (tgt := 43) hx hb dX5_mayMake_1 (by rw [hc_9]; decide) (by rw [hc_9]; decide) (by rw [hc_9]; decide) (by decide) ?_
        refine lv_iload_n hx hb dX5_mayMake_43 rfl (lv_at hl 2 rfl) ?_
        refine lv_iconst (v := 3) hx hb dX5_mayMake_44 (by decide) ?_
        refine lv_icmp_ne (tgt := 52) hx hb dX5_mayMake_45 (by decide) (fun hc_8 => ?_) (fun hc_8 => ?_)
        · rw [if_neg hc_8] at hq
          refine lv_iconst (v := 0) hx hb dX5_mayMake_52 (by decide) ?_
          cases hq
          exact bk_zret C hH (Or.inl rfl) dX5_mayMake_53
        · rw [if_pos hc_8] at hq
          refine lv_iconst (v := 1) hx hb dX5_mayMake_48 (by decide) ?_
          refine lv_goto (tgt := 53) hx hb dX5_mayMake_49 (by decide) ?_
          cases hq
          exact bk_zret C hH (Or.inr rfl) dX5_mayMake_53
      · rw [if_neg hc_9] at hq
        refine lv_tableOut (tgt := 54) hx hb dX5_mayMake_1 (by have n0 := bk_neI (k := 0) hc_4 (by decide) (by decide); have n1 := bk_neI (k := 1) hc_7 (by decide) (by decide); have n2 := bk_neI (k := 2) hc_9 (by decide) (by decide); omega) (by decide) ?_
        refine lv_iload_n hx hb dX5_mayMake_54 rfl (lv_at hl 2 rfl) ?_
        refine lv_iconst (v := 3) hx hb dX5_mayMake_55 (by decide) ?_
        refine lv_icmp_ne (tgt := 67) hx hb dX5_mayMake_56 (by decide) (fun hc_11 => ?_) (fun hc_11 => ?_)
        · rw [if_neg hc_11] at hq
          refine lv_iconst (v := 0) hx hb dX5_mayMake_67 (by decide) ?_
          cases hq
          exact bk_zret C hH (Or.inl rfl) dX5_mayMake_68
        · rw [if_pos hc_11] at hq
          refine lv_iload_n hx hb dX5_mayMake_59 rfl (lv_at hl 1 rfl) ?_
          refine lv_if_ne (tgt := 67) hx hb dX5_mayMake_60 (by decide) (fun hc_10 => ?_) (fun hc_10 => ?_)
          · rw [if_neg hc_10] at hq
            refine lv_iconst (v := 0) hx hb dX5_mayMake_67 (by decide) ?_
            cases hq
            exact bk_zret C hH (Or.inl rfl) dX5_mayMake_68
          · rw [if_pos hc_10] at hq
            refine lv_iconst (v := 1) hx hb dX5_mayMake_63 (by decide) ?_
            refine lv_goto (tgt := 68) hx hb dX5_mayMake_64 (by decide) ?_
            cases hq
            exact bk_zret C hH (Or.inr rfl) dX5_mayMake_68
set_option maxRecDepth 100000 in
theorem c_X5_mayMake {l : Launch} {G : bk_G} {N : Nat} {Y : bk_Lay} {V : bk_Val} {x0 : Int32} {x1 : Int32} {x2 : Int32} {out : Int32} (hq : q_X5_mayMake N Y V x0 x1 x2 = some out) : Met l yX5_mayMake (bk_ws yX5_mayMake cX5_mayMake 3 (some FieldType.boolean)) rm_X5_mayMake (bk_Pc G [.int x0, .int x1, .int x2] Y V) (bk_Q G (some (.int out)) Y V) 0 0 (bk_A G) :=
  bk_met (by decide) (Nat.le_of_ble_eq_true rfl) (fun p e s m args below meth c ls C hnm hH hl => w_X5_mayMake C _ _ _ _ _ _ _ _ hl hH hq)

def rm_X5_shareOfCause : Room := bk_rm 1 0 0 21
set_option maxRecDepth 100000 in
set_option maxHeartbeats 4000000 in
theorem w_X5_shareOfCause_27 (C : bk_C G p s m args meth c cX5_shareOfCause RX5 5 (some FieldType.long)) : ∀ (V : bk_Val) (a0 : Nat) (x1 : Int32) (w2 : Int64) (sx0 : Int32) (H : Heap) (locs : List Loc) (ls : Array Slot) (out : Int64), lv_has ls 5 [(0, .ref a0), (1, .int x1), (2, .long w2)] → bk_H G Y V s.heap H locs → q_X5_shareOfCause_27 N Y V a0 x1 w2 sx0 = some out → W p l e rm_X5_shareOfCause s m args below meth c H locs 0 0 (MQ below (bk_Q G (some (.long out)) Y V) args s 0 0 (bk_A G)) (F0 m 27 ls [.int sx0]) := by
  have hx := C.1
  have hb := C.2.1
  intro V a0 x1 w2 sx0 H locs ls out hl hH hq
  unfold q_X5_shareOfCause_27 at hq
  refine lv_istore (lv' := [(4, .int sx0), (0, .ref a0), (1, .int x1), (2, .long w2)]) hx hb dX5_shareOfCause_27 hl (by decide) rfl (fun ls hl => ?_)
  refine lv_aload_n hx hb dX5_shareOfCause_29 rfl (lv_at hl 1 rfl) ?_
  obtain ⟨hs_1, hq⟩ := bk_ck_some hq
  obtain ⟨b_2, hr_3, hq⟩ := bk_bd_some hq
  refine bk_getr C hH fl_RX5_15 hs_1 rfl hr_3 dX5_shareOfCause_30 ?_
  refine lv_iload_n hx hb dX5_shareOfCause_33 rfl (lv_at hl 2 rfl) ?_
  obtain ⟨ha_4, hq⟩ := bk_ck_some hq
  obtain ⟨hi_5, hq⟩ := bk_ck_some hq
  refine bk_iald C hH (bk_arr ha_4) (bk_in_vp hi_5) dX5_shareOfCause_34 ?_
  refine bk_i2l hx hb dX5_shareOfCause_35 ?_
  refine lv_lload_n hx hb dX5_shareOfCause_36 rfl (lv_at hl 3 rfl) ?_
  refine lv_lmul hx hb dX5_shareOfCause_37 ?_
  refine lv_iload hx hb dX5_shareOfCause_38 (lv_at hl 0 rfl) ?_
  refine lv_iconst (v := 1) hx hb dX5_shareOfCause_40 (by decide) ?_
  obtain ⟨r_7, hr_6, hq⟩ := bk_bd_some hq
  refine bk_callS (rest := [.long ((bk_rI V b_2 x1.toNatClampNeg).toInt64 * w2)]) (As := [.int sx0, .int 1]) (ro := (some (.int r_7))) (Y1 := Y) (V1 := V) C hH hl.1 (c_J9_max_7cf53 hr_6) mc_J9_max_7cf53 st_J9_max_7cf53 lk_RX5_62 rfl ⟨rfl, rfl⟩ ⟨by decide, by decide⟩ rfl (Nat.le_of_ble_eq_true rfl) dX5_shareOfCause_41 ⟨by decide, by decide⟩ (fun H locs hH => ?_)
  refine bk_i2l hx hb dX5_shareOfCause_44 ?_
  obtain ⟨hd_8, hq⟩ := bk_ck_some hq
  refine lv_ldiv hx hb dX5_shareOfCause_45 hd_8 ?_
  cases hq
  exact bk_lret C hH dX5_shareOfCause_46

set_option maxRecDepth 100000 in
set_option maxHeartbeats 4000000 in
theorem w_X5_shareOfCause (C : bk_C G p s m args meth c cX5_shareOfCause RX5 5 (some FieldType.long)) : ∀ (V : bk_Val) (a0 : Nat) (x1 : Int32) (w2 : Int64) (H : Heap) (locs : List Loc) (ls : Array Slot) (out : Int64), lv_has ls 5 [(0, .ref a0), (1, .int x1), (2, .long w2)] → bk_H G Y V s.heap H locs → q_X5_shareOfCause N Y V a0 x1 w2 = some out → W p l e rm_X5_shareOfCause s m args below meth c H locs 0 0 (MQ below (bk_Q G (some (.long out)) Y V) args s 0 0 (bk_A G)) (F0 m 0 ls []) := by
  have hx := C.1
  have hb := C.2.1
  intro V a0 x1 w2 H locs ls out hl hH hq
  unfold q_X5_shareOfCause at hq
  refine lv_iload_n hx hb dX5_shareOfCause_0 rfl (lv_at hl 1 rfl) ?_
  refine lv_iconst (v := 3) hx hb dX5_shareOfCause_1 (by decide) ?_
  refine lv_icmp_ne (tgt := 9) hx hb dX5_shareOfCause_2 (by decide) (fun hc_16 => ?_) (fun hc_16 => ?_)
  · rw [if_neg hc_16] at hq
    refine lv_iload_n hx hb dX5_shareOfCause_9 rfl (lv_at hl 1 rfl) ?_
    refine lv_iconst (v := 1) hx hb dX5_shareOfCause_10 (by decide) ?_
    refine lv_icmp_ne (tgt := 23) hx hb dX5_shareOfCause_11 (by decide) (fun hc_15 => ?_) (fun hc_15 => ?_)
    · rw [if_neg hc_15] at hq
      refine lv_aload_n hx hb dX5_shareOfCause_23 rfl (lv_at hl 0 rfl) ?_
      obtain ⟨hs_11, hq⟩ := bk_ck_some hq
      obtain ⟨r_10, hr_9, hq⟩ := bk_bd_some hq
      refine bk_callV (rest := []) (As := []) (ro := (some (.int r_10))) (Y1 := Y) (V1 := V) C hH hl.1 (c_X5_inches hr_9) mc_X5_inches mv_X5_inches lk_RX5_71 hs_11 rfl rfl ⟨rfl, rfl⟩ ⟨by decide, by decide⟩ rfl (Nat.le_of_ble_eq_true rfl) dX5_shareOfCause_24 ⟨by decide, by decide⟩ (fun H locs hH => ?_)
      exact w_X5_shareOfCause_27 C _ _ _ _ _ _ _ _ _ (lv_sub hl [0, 1, 2] rfl) hH hq
    · rw [if_pos hc_15] at hq
      refine lv_iconst (v := 2) hx hb dX5_shareOfCause_14 (by decide) ?_
      refine lv_aload_n hx hb dX5_shareOfCause_15 rfl (lv_at hl 0 rfl) ?_
      obtain ⟨hs_14, hq⟩ := bk_ck_some hq
      obtain ⟨r_13, hr_12, hq⟩ := bk_bd_some hq
      refine bk_callV (rest := [.int 2]) (As := []) (ro := (some (.int r_13))) (Y1 := Y) (V1 := V) C hH hl.1 (c_X5_inches hr_12) mc_X5_inches mv_X5_inches lk_RX5_71 hs_14 rfl rfl ⟨rfl, rfl⟩ ⟨by decide, by decide⟩ rfl (Nat.le_of_ble_eq_true rfl) dX5_shareOfCause_16 ⟨by decide, by decide⟩ (fun H locs hH => ?_)
      refine lv_imul hx hb dX5_shareOfCause_19 ?_
      refine lv_goto (tgt := 27) hx hb dX5_shareOfCause_20 (by decide) ?_
      exact w_X5_shareOfCause_27 C _ _ _ _ _ _ _ _ _ (lv_sub hl [0, 1, 2] rfl) hH hq
  · rw [if_pos hc_16] at hq
    refine lv_iconst (v := 1) hx hb dX5_shareOfCause_5 (by decide) ?_
    refine lv_goto (tgt := 27) hx hb dX5_shareOfCause_6 (by decide) ?_
    exact w_X5_shareOfCause_27 C _ _ _ _ _ _ _ _ _ (lv_sub hl [0, 1, 2] rfl) hH hq
set_option maxRecDepth 100000 in
theorem c_X5_shareOfCause {l : Launch} {G : bk_G} {N : Nat} {Y : bk_Lay} {V : bk_Val} {a0 : Nat} {x1 : Int32} {w2 : Int64} {out : Int64} (hq : q_X5_shareOfCause N Y V a0 x1 w2 = some out) : Met l yX5_shareOfCause (bk_ws yX5_shareOfCause cX5_shareOfCause 5 (some FieldType.long)) rm_X5_shareOfCause (bk_Pc G [.ref a0, .int x1, .long w2] Y V) (bk_Q G (some (.long out)) Y V) 0 0 (bk_A G) :=
  bk_met (by decide) (Nat.le_of_ble_eq_true rfl) (fun p e s m args below meth c ls C hnm hH hl => w_X5_shareOfCause C _ _ _ _ _ _ _ _ hl hH hq)

def rm_X5_hasFlankBeside : Room := bk_rm 3 0 0 66
set_option maxRecDepth 100000 in
set_option maxHeartbeats 4000000 in
theorem w_X5_hasFlankBeside_45 (C : bk_C G p s m args meth c cX5_hasFlankBeside RX5 3 (some FieldType.boolean)) (k2 : bk_Val → Nat → Int32 → Int32 → Option (Int32)) (i2 : ∀ (V : bk_Val) (a0 : Nat) (x1 : Int32) (x2 : Int32) (H : Heap) (locs : List Loc) (ls : Array Slot) (out : Int32), lv_has ls 3 [(0, .ref a0), (1, .int x1), (2, .int x2)] → bk_H G Y V s.heap H locs → k2 V a0 x1 x2 = some out → W p l e rm_X5_hasFlankBeside s m args below meth c H locs 0 0 (MQ below (bk_Q G (some (.int out)) Y V) args s 0 0 (bk_A G)) (F0 m 2 ls [])) : ∀ (V : bk_Val) (a0 : Nat) (x1 : Int32) (x2 : Int32) (H : Heap) (locs : List Loc) (ls : Array Slot) (out : Int32), lv_has ls 3 [(0, .ref a0), (1, .int x1), (2, .int x2)] → bk_H G Y V s.heap H locs → q_X5_hasFlankBeside_45 N Y k2 V a0 x1 x2 = some out → W p l e rm_X5_hasFlankBeside s m args below meth c H locs 0 0 (MQ below (bk_Q G (some (.int out)) Y V) args s 0 0 (bk_A G)) (F0 m 45 ls []) := by
  have hx := C.1
  have hb := C.2.1
  intro V a0 x1 x2 H locs ls out hl hH hq
  unfold q_X5_hasFlankBeside_45 at hq
  refine lv_iinc (v := (x2 + 1)) (lv' := [(2, .int (x2 + 1)), (0, .ref a0), (1, .int x1)]) hx hb dX5_hasFlankBeside_45 hl (k := 2) rfl rfl (by decide) rfl (fun ls hl => ?_)
  refine lv_goto (tgt := 2) hx hb dX5_hasFlankBeside_48 (by decide) ?_
  exact i2 _ _ _ _ _ _ _ _ (lv_sub hl [1, 2, 0] rfl) hH hq

set_option maxRecDepth 100000 in
set_option maxHeartbeats 4000000 in
theorem w_X5_hasFlankBeside_2 (C : bk_C G p s m args meth c cX5_hasFlankBeside RX5 3 (some FieldType.boolean)) : ∀ (n : Nat), ∀ (V : bk_Val) (a0 : Nat) (x1 : Int32) (x2 : Int32) (H : Heap) (locs : List Loc) (ls : Array Slot) (out : Int32), lv_has ls 3 [(0, .ref a0), (1, .int x1), (2, .int x2)] → bk_H G Y V s.heap H locs → q_X5_hasFlankBeside_2 N Y n V a0 x1 x2 = some out → W p l e rm_X5_hasFlankBeside s m args below meth c H locs 0 0 (MQ below (bk_Q G (some (.int out)) Y V) args s 0 0 (bk_A G)) (F0 m 2 ls []) := by
  have hx := C.1
  have hb := C.2.1
  intro n
  induction n with
  | zero =>
    intro V a0 x1 x2 H locs ls out hl hH hq
    exact nomatch (show (none : Option (Int32)) = some out from hq)
  | succ n ih =>
    intro V a0 x1 x2 H locs ls out hl hH hq
    unfold q_X5_hasFlankBeside_2 at hq
    refine lv_iload_n hx hb dX5_hasFlankBeside_2 rfl (lv_at hl 2 rfl) ?_
    refine lv_aload_n hx hb dX5_hasFlankBeside_3 rfl (lv_at hl 0 rfl) ?_
    obtain ⟨hs_1, hq⟩ := bk_ck_some hq
    obtain ⟨b_2, hr_3, hq⟩ := bk_bd_some hq
    refine bk_getr C hH fl_RX5_21 hs_1 rfl hr_3 dX5_hasFlankBeside_4 ?_
    obtain ⟨hs_4, hq⟩ := bk_ck_some hq
    refine bk_geti C hH fl_RX5_55 hs_4 rfl dX5_hasFlankBeside_7 ?_
    refine lv_icmp_ge (tgt := 51) hx hb dX5_hasFlankBeside_10 (by decide) (fun hc_16 => ?_) (fun hc_16 => ?_)
    · rw [if_pos hc_16] at hq
      refine lv_iconst (v := 0) hx hb dX5_hasFlankBeside_51 (by decide) ?_
      cases hq
      exact bk_zret C hH (Or.inl rfl) dX5_hasFlankBeside_52
    · rw [if_neg hc_16] at hq
      refine lv_iload_n hx hb dX5_hasFlankBeside_13 rfl (lv_at hl 2 rfl) ?_
      refine lv_iload_n hx hb dX5_hasFlankBeside_14 rfl (lv_at hl 1 rfl) ?_
      refine lv_icmp_eq (tgt := 45) hx hb dX5_hasFlankBeside_15 (by decide) (fun hc_15 => ?_) (fun hc_15 => ?_)
      · rw [if_pos hc_15] at hq
        exact w_X5_hasFlankBeside_45 C _ ih _ _ _ _ _ _ _ _ (lv_sub hl [0, 1, 2] rfl) hH hq
      · rw [if_neg hc_15] at hq
        refine lv_aload_n hx hb dX5_hasFlankBeside_18 rfl (lv_at hl 0 rfl) ?_
        refine bk_getr C hH fl_RX5_21 hs_1 rfl hr_3 dX5_hasFlankBeside_19 ?_
        obtain ⟨b_5, hr_6, hq⟩ := bk_bd_some hq
        refine bk_getr C hH fl_RX5_89 hs_4 rfl hr_6 dX5_hasFlankBeside_22 ?_
        refine lv_iload_n hx hb dX5_hasFlankBeside_25 rfl (lv_at hl 2 rfl) ?_
        obtain ⟨ha_7, hq⟩ := bk_ck_some hq
        obtain ⟨hi_8, hq⟩ := bk_ck_some hq
        refine bk_iald C hH (bk_arr ha_7) (bk_in_vp hi_8) dX5_hasFlankBeside_26 ?_
        obtain ⟨r_10, hr_9, hq⟩ := bk_bd_some hq
        refine bk_callS (rest := []) (As := [.int (bk_rI V b_5 x2.toNatClampNeg)]) (ro := (some (.int r_10))) (Y1 := Y) (V1 := V) C hH hl.1 (c_X5_isFlank hr_9) mc_X5_isFlank st_X5_isFlank lk_RX5_82 rfl ⟨rfl, rfl⟩ ⟨by decide, by decide⟩ rfl (Nat.le_of_ble_eq_true rfl) dX5_hasFlankBeside_27 ⟨by decide, by decide⟩ (fun H locs hH => ?_)
        refine lv_if_eq (tgt := 45) hx hb dX5_hasFlankBeside_30 (by decide) (fun hc_14 => ?_) (fun hc_14 => ?_)
        · rw [if_pos hc_14] at hq
          exact w_X5_hasFlankBeside_45 C _ ih _ _ _ _ _ _ _ _ (lv_sub hl [0, 1, 2] rfl) hH hq
        · rw [if_neg hc_14] at hq
          refine lv_aload_n hx hb dX5_hasFlankBeside_33 rfl (lv_at hl 0 rfl) ?_
          refine lv_iload_n hx hb dX5_hasFlankBeside_34 rfl (lv_at hl 2 rfl) ?_
          refine lv_iload_n hx hb dX5_hasFlankBeside_35 rfl (lv_at hl 1 rfl) ?_
          obtain ⟨r_12, hr_11, hq⟩ := bk_bd_some hq
          refine bk_callV (rest := []) (As := [.int x2, .int x1]) (ro := (some (.int r_12))) (Y1 := Y) (V1 := V) C hH hl.1 (c_X5_inchesApart hr_11) mc_X5_inchesApart mv_X5_inchesApart lk_RX5_107 hs_1 rfl rfl ⟨rfl, rfl⟩ ⟨by decide, by decide⟩ rfl (Nat.le_of_ble_eq_true rfl) dX5_hasFlankBeside_36 ⟨by decide, by decide⟩ (fun H locs hH => ?_)
          refine lv_iconst (v := 1) hx hb dX5_hasFlankBeside_39 (by decide) ?_
          refine lv_icmp_gt (tgt := 45) hx hb dX5_hasFlankBeside_40 (by decide) (fun hc_13 => ?_) (fun hc_13 => ?_)
          · rw [if_pos hc_13] at hq
            exact w_X5_hasFlankBeside_45 C _ ih _ _ _ _ _ _ _ _ (lv_sub hl [0, 1, 2] rfl) hH hq
          · rw [if_neg hc_13] at hq
            refine lv_iconst (v := 1) hx hb dX5_hasFlankBeside_43 (by decide) ?_
            cases hq
            exact bk_zret C hH (Or.inr rfl) dX5_hasFlankBeside_44

set_option maxRecDepth 100000 in
set_option maxHeartbeats 4000000 in
theorem w_X5_hasFlankBeside (C : bk_C G p s m args meth c cX5_hasFlankBeside RX5 3 (some FieldType.boolean)) : ∀ (V : bk_Val) (a0 : Nat) (x1 : Int32) (H : Heap) (locs : List Loc) (ls : Array Slot) (out : Int32), lv_has ls 3 [(0, .ref a0), (1, .int x1)] → bk_H G Y V s.heap H locs → q_X5_hasFlankBeside N Y V a0 x1 = some out → W p l e rm_X5_hasFlankBeside s m args below meth c H locs 0 0 (MQ below (bk_Q G (some (.int out)) Y V) args s 0 0 (bk_A G)) (F0 m 0 ls []) := by
  have hx := C.1
  have hb := C.2.1
  intro V a0 x1 H locs ls out hl hH hq
  unfold q_X5_hasFlankBeside at hq
  refine lv_iconst (v := 0) hx hb dX5_hasFlankBeside_0 (by decide) ?_
  refine lv_istore_n (lv' := [(2, .int 0), (0, .ref a0), (1, .int x1)]) hx hb dX5_hasFlankBeside_1 rfl hl (by decide) rfl (fun ls hl => ?_)
  exact w_X5_hasFlankBeside_2 C _ _ _ _ _ _ _ _ _ (lv_sub hl [1, 2, 0] rfl) hH hq
set_option maxRecDepth 100000 in
theorem c_X5_hasFlankBeside {l : Launch} {G : bk_G} {N : Nat} {Y : bk_Lay} {V : bk_Val} {a0 : Nat} {x1 : Int32} {out : Int32} (hq : q_X5_hasFlankBeside N Y V a0 x1 = some out) : Met l yX5_hasFlankBeside (bk_ws yX5_hasFlankBeside cX5_hasFlankBeside 3 (some FieldType.boolean)) rm_X5_hasFlankBeside (bk_Pc G [.ref a0, .int x1] Y V) (bk_Q G (some (.int out)) Y V) 0 0 (bk_A G) :=
  bk_met (by decide) (Nat.le_of_ble_eq_true rfl) (fun p e s m args below meth c ls C hnm hH hl => w_X5_hasFlankBeside C _ _ _ _ _ _ _ hl hH hq)

def rm_X5_weightOfCause : Room := bk_rm 4 0 0 88
set_option maxRecDepth 100000 in
set_option maxHeartbeats 4000000 in
theorem w_X5_weightOfCause (C : bk_C G p s m args meth c cX5_weightOfCause RX5 5 (some FieldType.long)) : ∀ (V : bk_Val) (a0 : Nat) (x1 : Int32) (x2 : Int32) (H : Heap) (locs : List Loc) (ls : Array Slot) (out : Int64), lv_has ls 5 [(0, .ref a0), (1, .int x1), (2, .int x2)] → bk_H G Y V s.heap H locs → q_X5_weightOfCause N Y V a0 x1 x2 = some out → W p l e rm_X5_weightOfCause s m args below meth c H locs 0 0 (MQ below (bk_Q G (some (.long out)) Y V) args s 0 0 (bk_A G)) (F0 m 0 ls []) := by
  have hx := C.1
  have hb := C.2.1
  intro V a0 x1 x2 H locs ls out hl hH hq
  unfold q_X5_weightOfCause at hq
  refine lv_iload_n hx hb dX5_weightOfCause_0 rfl (lv_at hl 2 rfl) ?_
  refine lv_aload_n hx hb dX5_weightOfCause_1 rfl (lv_at hl 0 rfl) ?_
  obtain ⟨hs_1, hq⟩ := bk_ck_some hq
  obtain ⟨b_2, hr_3, hq⟩ := bk_bd_some hq
  refine bk_getr C hH fl_RX5_21 hs_1 rfl hr_3 dX5_weightOfCause_2 ?_
  obtain ⟨hs_4, hq⟩ := bk_ck_some hq
  obtain ⟨b_5, hr_6, hq⟩ := bk_bd_some hq
  refine bk_getr C hH fl_RX5_86 hs_4 rfl hr_6 dX5_weightOfCause_5 ?_
  refine lv_iload_n hx hb dX5_weightOfCause_8 rfl (lv_at hl 1 rfl) ?_
  obtain ⟨ha_7, hq⟩ := bk_ck_some hq
  obtain ⟨hi_8, hq⟩ := bk_ck_some hq
  refine bk_iald C hH (bk_arr ha_7) (bk_in_vp hi_8) dX5_weightOfCause_9 ?_
  refine lv_aload_n hx hb dX5_weightOfCause_10 rfl (lv_at hl 0 rfl) ?_
  refine bk_getr C hH fl_RX5_21 hs_1 rfl hr_3 dX5_weightOfCause_11 ?_
  obtain ⟨b_9, hr_10, hq⟩ := bk_bd_some hq
  refine bk_getr C hH fl_RX5_89 hs_4 rfl hr_10 dX5_weightOfCause_14 ?_
  refine lv_iload_n hx hb dX5_weightOfCause_17 rfl (lv_at hl 1 rfl) ?_
  obtain ⟨ha_11, hq⟩ := bk_ck_some hq
  obtain ⟨hi_12, hq⟩ := bk_ck_some hq
  refine bk_iald C hH (bk_arr ha_11) (bk_in_vp hi_12) dX5_weightOfCause_18 ?_
  obtain ⟨r_14, hr_13, hq⟩ := bk_bd_some hq
  refine bk_callS (rest := []) (As := [.int x2, .int (bk_rI V b_5 x1.toNatClampNeg), .int (bk_rI V b_9 x1.toNatClampNeg)]) (ro := (some (.int r_14))) (Y1 := Y) (V1 := V) C hH hl.1 (c_X5_mayMake hr_13) mc_X5_mayMake st_X5_mayMake lk_RX5_92 rfl ⟨rfl, rfl⟩ ⟨by decide, by decide⟩ rfl (Nat.le_of_ble_eq_true rfl) dX5_weightOfCause_19 ⟨by decide, by decide⟩ (fun H locs hH => ?_)
  refine lv_if_ne (tgt := 27) hx hb dX5_weightOfCause_22 (by decide) (fun hc_21 => ?_) (fun hc_21 => ?_)
  · rw [if_neg hc_21] at hq
    refine lv_aload_n hx hb dX5_weightOfCause_27 rfl (lv_at hl 0 rfl) ?_
    refine lv_iload_n hx hb dX5_weightOfCause_28 rfl (lv_at hl 2 rfl) ?_
    refine bk_ldc2 C kl_RX5_96 dX5_weightOfCause_29 ?_
    obtain ⟨r_16, hr_15, hq⟩ := bk_bd_some hq
    refine bk_callV (rest := []) (As := [.int x2, .long 1000000]) (ro := (some (.long r_16))) (Y1 := Y) (V1 := V) C hH hl.1 (c_X5_shareOfCause hr_15) mc_X5_shareOfCause mv_X5_shareOfCause lk_RX5_98 hs_1 rfl rfl ⟨rfl, rfl⟩ ⟨by decide, by decide⟩ rfl (Nat.le_of_ble_eq_true rfl) dX5_weightOfCause_32 ⟨by decide, by decide⟩ (fun H locs hH => ?_)
    refine lv_lstore_n (lv' := [(3, .long r_16), (0, .ref a0), (1, .int x1), (2, .int x2)]) hx hb dX5_weightOfCause_35 rfl hl (by decide) rfl (fun ls hl => ?_)
    refine lv_iload_n hx hb dX5_weightOfCause_36 rfl (lv_at hl 3 rfl) ?_
    refine lv_iconst (v := 1) hx hb dX5_weightOfCause_37 (by decide) ?_
    refine lv_icmp_ne (tgt := 57) hx hb dX5_weightOfCause_38 (by decide) (fun hc_20 => ?_) (fun hc_20 => ?_)
    · rw [if_neg hc_20] at hq
      refine lv_lload_n hx hb dX5_weightOfCause_57 rfl (lv_at hl 0 rfl) ?_
      cases hq
      exact bk_lret C hH dX5_weightOfCause_58
    · rw [if_pos hc_20] at hq
      refine lv_aload_n hx hb dX5_weightOfCause_41 rfl (lv_at hl 1 rfl) ?_
      refine lv_iload_n hx hb dX5_weightOfCause_42 rfl (lv_at hl 2 rfl) ?_
      obtain ⟨r_18, hr_17, hq⟩ := bk_bd_some hq
      refine bk_callV (rest := []) (As := [.int x1]) (ro := (some (.int r_18))) (Y1 := Y) (V1 := V) C hH hl.1 (c_X5_hasFlankBeside hr_17) mc_X5_hasFlankBeside mv_X5_hasFlankBeside lk_RX5_102 hs_1 rfl rfl ⟨rfl, rfl⟩ ⟨by decide, by decide⟩ rfl (Nat.le_of_ble_eq_true rfl) dX5_weightOfCause_43 ⟨by decide, by decide⟩ (fun H locs hH => ?_)
      refine lv_if_eq (tgt := 57) hx hb dX5_weightOfCause_46 (by decide) (fun hc_19 => ?_) (fun hc_19 => ?_)
      · rw [if_pos hc_19] at hq
        refine lv_lload_n hx hb dX5_weightOfCause_57 rfl (lv_at hl 0 rfl) ?_
        cases hq
        exact bk_lret C hH dX5_weightOfCause_58
      · rw [if_neg hc_19] at hq
        refine bk_ldc2 C kl_RX5_105 dX5_weightOfCause_49 ?_
        refine lv_lload_n hx hb dX5_weightOfCause_52 rfl (lv_at hl 0 rfl) ?_
        refine lv_lmul hx hb dX5_weightOfCause_53 ?_
        refine lv_goto (tgt := 58) hx hb dX5_weightOfCause_54 (by decide) ?_
        cases hq
        exact bk_lret C hH dX5_weightOfCause_58
  · rw [if_pos hc_21] at hq
    refine lv_lconst (v := 0) hx hb dX5_weightOfCause_25 (by decide) ?_
    cases hq
    exact bk_lret C hH dX5_weightOfCause_26
set_option maxRecDepth 100000 in
theorem c_X5_weightOfCause {l : Launch} {G : bk_G} {N : Nat} {Y : bk_Lay} {V : bk_Val} {a0 : Nat} {x1 : Int32} {x2 : Int32} {out : Int64} (hq : q_X5_weightOfCause N Y V a0 x1 x2 = some out) : Met l yX5_weightOfCause (bk_ws yX5_weightOfCause cX5_weightOfCause 5 (some FieldType.long)) rm_X5_weightOfCause (bk_Pc G [.ref a0, .int x1, .int x2] Y V) (bk_Q G (some (.long out)) Y V) 0 0 (bk_A G) :=
  bk_met (by decide) (Nat.le_of_ble_eq_true rfl) (fun p e s m args below meth c ls C hnm hH hl => w_X5_weightOfCause C _ _ _ _ _ _ _ _ hl hH hq)

def rm_X5_fullPressure : Room := bk_rm 0 0 0 0
set_option maxRecDepth 100000 in
set_option maxHeartbeats 4000000 in
theorem w_X5_fullPressure (C : bk_C G p s m args meth c cX5_fullPressure RX5 1 (some FieldType.int)) : ∀ (V : bk_Val) (a0 : Nat) (H : Heap) (locs : List Loc) (ls : Array Slot) (out : Int32), lv_has ls 1 [(0, .ref a0)] → bk_H G Y V s.heap H locs → q_X5_fullPressure N Y V a0 = some out → W p l e rm_X5_fullPressure s m args below meth c H locs 0 0 (MQ below (bk_Q G (some (.int out)) Y V) args s 0 0 (bk_A G)) (F0 m 0 ls []) := by
  have hx := C.1
  have hb := C.2.1
  intro V a0 H locs ls out hl hH hq
  unfold q_X5_fullPressure at hq
  refine lv_sipush (v := 1000) hx hb dX5_fullPressure_0 (by decide) ?_
  refine lv_aload_n hx hb dX5_fullPressure_3 rfl (lv_at hl 0 rfl) ?_
  obtain ⟨hs_1, hq⟩ := bk_ck_some hq
  obtain ⟨b_2, hr_3, hq⟩ := bk_bd_some hq
  refine bk_getr C hH fl_RX5_9 hs_1 rfl hr_3 dX5_fullPressure_4 ?_
  refine lv_iconst (v := 4) hx hb dX5_fullPressure_7 (by decide) ?_
  obtain ⟨ha_4, hq⟩ := bk_ck_some hq
  obtain ⟨hi_5, hq⟩ := bk_ck_some hq
  refine bk_iald C hH (bk_arr ha_4) (bk_in_vp hi_5) dX5_fullPressure_8 ?_
  refine lv_imul hx hb dX5_fullPressure_9 ?_
  cases hq
  exact bk_iret C hH dX5_fullPressure_10
set_option maxRecDepth 100000 in
theorem c_X5_fullPressure {l : Launch} {G : bk_G} {N : Nat} {Y : bk_Lay} {V : bk_Val} {a0 : Nat} {out : Int32} (hq : q_X5_fullPressure N Y V a0 = some out) : Met l yX5_fullPressure (bk_ws yX5_fullPressure cX5_fullPressure 1 (some FieldType.int)) rm_X5_fullPressure (bk_Pc G [.ref a0] Y V) (bk_Q G (some (.int out)) Y V) 0 0 (bk_A G) :=
  bk_met (by decide) (Nat.le_of_ble_eq_true rfl) (fun p e s m args below meth c ls C hnm hH hl => w_X5_fullPressure C _ _ _ _ _ _ hl hH hq)

def rm_X5_lasts : Room := bk_rm 5 0 0 116
set_option maxRecDepth 100000 in
set_option maxHeartbeats 4000000 in
theorem w_X5_lasts_9 (C : bk_C G p s m args meth c cX5_lasts RX5 6 (some FieldType.boolean)) : ∀ (n : Nat), ∀ (V : bk_Val) (a0 : Nat) (x1 : Int32) (x2 : Int32) (x3 : Int32) (x4 : Int32) (x5 : Int32) (H : Heap) (locs : List Loc) (ls : Array Slot) (out : Int32 × bk_Val), lv_has ls 6 [(0, .ref a0), (1, .int x1), (2, .int x2), (3, .int x3), (4, .int x4), (5, .int x5)] → bk_H G Y V s.heap H locs → q_X5_lasts_9 N Y n V a0 x1 x2 x3 x4 x5 = some out → W p l e rm_X5_lasts s m args below meth c H locs 0 0 (MQ below (bk_Q G (some (.int out.1)) Y out.2) args s 0 0 (bk_A G)) (F0 m 9 ls []) := by
  have hx := C.1
  have hb := C.2.1
  intro n
  induction n with
  | zero =>
    intro V a0 x1 x2 x3 x4 x5 H locs ls out hl hH hq
    exact nomatch (show (none : Option (Int32 × bk_Val)) = some out from hq)
  | succ n ih =>
    intro V a0 x1 x2 x3 x4 x5 H locs ls out hl hH hq
    unfold q_X5_lasts_9 at hq
    refine lv_iload hx hb dX5_lasts_9 (lv_at hl 5 rfl) ?_
    refine lv_iload_n hx hb dX5_lasts_11 rfl (lv_at hl 2 rfl) ?_
    refine lv_icmp_ge (tgt := 48) hx hb dX5_lasts_12 (by decide) (fun hc_6 => ?_) (fun hc_6 => ?_)
    · rw [if_pos hc_6] at hq
      refine lv_iconst (v := 1) hx hb dX5_lasts_48 (by decide) ?_
      cases hq
      exact bk_zret C hH (Or.inr rfl) dX5_lasts_49
    · rw [if_neg hc_6] at hq
      refine lv_iload hx hb dX5_lasts_15 (lv_at hl 4 rfl) ?_
      refine lv_aload_n hx hb dX5_lasts_17 rfl (lv_at hl 0 rfl) ?_
      refine lv_iload_n hx hb dX5_lasts_18 rfl (lv_at hl 1 rfl) ?_
      refine lv_iload hx hb dX5_lasts_19 (lv_at hl 4 rfl) ?_
      refine lv_iload_n hx hb dX5_lasts_21 rfl (lv_at hl 3 rfl) ?_
      refine lv_iload hx hb dX5_lasts_22 (lv_at hl 5 rfl) ?_
      refine lv_iadd hx hb dX5_lasts_24 ?_
      refine lv_iconst (v := 1) hx hb dX5_lasts_25 (by decide) ?_
      obtain ⟨hs_4, hq⟩ := bk_ck_some hq
      obtain ⟨r_2, V_3, hr_1, hq⟩ := bk_bd2_some hq
      refine bk_callV (rest := [.int x4]) (As := [.int x1, .int x4, .int (x3 + x5), .int 1]) (ro := (some (.int r_2))) (Y1 := Y) (V1 := V_3) C hH hl.1 (c_X5_goneBy hr_1) mc_X5_goneBy mv_X5_goneBy lk_RX5_135 hs_4 rfl rfl ⟨rfl, rfl⟩ ⟨by decide, by decide⟩ rfl (Nat.le_of_ble_eq_true rfl) dX5_lasts_26 ⟨by decide, by decide⟩ (fun H locs hH => ?_)
      refine lv_isub hx hb dX5_lasts_29 ?_
      refine lv_istore (lv' := [(4, .int (x4 - r_2)), (0, .ref a0), (1, .int x1), (2, .int x2), (3, .int x3), (5, .int x5)]) hx hb dX5_lasts_30 hl (by decide) rfl (fun ls hl => ?_)
      refine lv_iload hx hb dX5_lasts_32 (lv_at hl 0 rfl) ?_
      refine lv_sipush (v := 10000) hx hb dX5_lasts_34 (by decide) ?_
      refine lv_icmp_ge (tgt := 42) hx hb dX5_lasts_37 (by decide) (fun hc_5 => ?_) (fun hc_5 => ?_)
      · rw [if_pos hc_5] at hq
        refine lv_iinc (v := (x5 + 1)) (lv' := [(5, .int (x5 + 1)), (4, .int (x4 - r_2)), (0, .ref a0), (1, .int x1), (2, .int x2), (3, .int x3)]) hx hb dX5_lasts_42 hl (k := 5) rfl rfl (by decide) rfl (fun ls hl => ?_)
        refine lv_goto (tgt := 9) hx hb dX5_lasts_45 (by decide) ?_
        exact ih _ _ _ _ _ _ _ _ _ _ _ (lv_sub hl [2, 3, 4, 5, 1, 0] rfl) hH hq
      · rw [if_neg hc_5] at hq
        refine lv_iconst (v := 0) hx hb dX5_lasts_40 (by decide) ?_
        cases hq
        exact bk_zret C hH (Or.inl rfl) dX5_lasts_41

set_option maxRecDepth 100000 in
set_option maxHeartbeats 4000000 in
theorem w_X5_lasts (C : bk_C G p s m args meth c cX5_lasts RX5 6 (some FieldType.boolean)) : ∀ (V : bk_Val) (a0 : Nat) (x1 : Int32) (x2 : Int32) (x3 : Int32) (H : Heap) (locs : List Loc) (ls : Array Slot) (out : Int32 × bk_Val), lv_has ls 6 [(0, .ref a0), (1, .int x1), (2, .int x2), (3, .int x3)] → bk_H G Y V s.heap H locs → q_X5_lasts N Y V a0 x1 x2 x3 = some out → W p l e rm_X5_lasts s m args below meth c H locs 0 0 (MQ below (bk_Q G (some (.int out.1)) Y out.2) args s 0 0 (bk_A G)) (F0 m 0 ls []) := by
  have hx := C.1
  have hb := C.2.1
  intro V a0 x1 x2 x3 H locs ls out hl hH hq
  unfold q_X5_lasts at hq
  refine lv_aload_n hx hb dX5_lasts_0 rfl (lv_at hl 0 rfl) ?_
  obtain ⟨hs_9, hq⟩ := bk_ck_some hq
  obtain ⟨r_8, hr_7, hq⟩ := bk_bd_some hq
  refine bk_callV (rest := []) (As := []) (ro := (some (.int r_8))) (Y1 := Y) (V1 := V) C hH hl.1 (c_X5_fullPressure hr_7) mc_X5_fullPressure mv_X5_fullPressure lk_RX5_132 hs_9 rfl rfl ⟨rfl, rfl⟩ ⟨by decide, by decide⟩ rfl (Nat.le_of_ble_eq_true rfl) dX5_lasts_1 ⟨by decide, by decide⟩ (fun H locs hH => ?_)
  refine lv_istore (lv' := [(4, .int r_8), (0, .ref a0), (1, .int x1), (2, .int x2), (3, .int x3)]) hx hb dX5_lasts_4 hl (by decide) rfl (fun ls hl => ?_)
  refine lv_iconst (v := 0) hx hb dX5_lasts_6 (by decide) ?_
  refine lv_istore (lv' := [(5, .int 0), (4, .int r_8), (0, .ref a0), (1, .int x1), (2, .int x2), (3, .int x3)]) hx hb dX5_lasts_7 hl (by decide) rfl (fun ls hl => ?_)
  exact w_X5_lasts_9 C _ _ _ _ _ _ _ _ _ _ _ _ (lv_sub hl [2, 3, 4, 5, 1, 0] rfl) hH hq
set_option maxRecDepth 100000 in
theorem c_X5_lasts {l : Launch} {G : bk_G} {N : Nat} {Y : bk_Lay} {V : bk_Val} {a0 : Nat} {x1 : Int32} {x2 : Int32} {x3 : Int32} {out : Int32 × bk_Val} (hq : q_X5_lasts N Y V a0 x1 x2 x3 = some out) : Met l yX5_lasts (bk_ws yX5_lasts cX5_lasts 6 (some FieldType.boolean)) rm_X5_lasts (bk_Pc G [.ref a0, .int x1, .int x2, .int x3] Y V) (bk_Q G (some (.int out.1)) Y out.2) 0 0 (bk_A G) :=
  bk_met (by decide) (Nat.le_of_ble_eq_true rfl) (fun p e s m args below meth c ls C hnm hH hl => w_X5_lasts C _ _ _ _ _ _ _ _ _ hl hH hq)

def rm_X5_glueFor : Room := bk_rm 5 0 0 113
set_option maxRecDepth 100000 in
set_option maxHeartbeats 4000000 in
theorem w_X5_glueFor_3 (C : bk_C G p s m args meth c cX5_glueFor RX5 6 (some FieldType.int)) : ∀ (n : Nat), ∀ (V : bk_Val) (a0 : Nat) (x1 : Int32) (x2 : Int32) (x3 : Int32) (x4 : Int32) (x5 : Int32) (H : Heap) (locs : List Loc) (ls : Array Slot) (out : Int32 × bk_Val), lv_has ls 6 [(0, .ref a0), (1, .int x1), (2, .int x2), (3, .int x3), (4, .int x4), (5, .int x5)] → bk_H G Y V s.heap H locs → q_X5_glueFor_3 N Y n V a0 x1 x2 x3 x4 x5 = some out → W p l e rm_X5_glueFor s m args below meth c H locs 0 0 (MQ below (bk_Q G (some (.int out.1)) Y out.2) args s 0 0 (bk_A G)) (F0 m 3 ls []) := by
  have hx := C.1
  have hb := C.2.1
  intro n
  induction n with
  | zero =>
    intro V a0 x1 x2 x3 x4 x5 H locs ls out hl hH hq
    exact nomatch (show (none : Option (Int32 × bk_Val)) = some out from hq)
  | succ n ih =>
    intro V a0 x1 x2 x3 x4 x5 H locs ls out hl hH hq
    unfold q_X5_glueFor_3 at hq
    refine lv_iload hx hb dX5_glueFor_3 (lv_at hl 5 rfl) ?_
    refine lv_bipush (v := 60) hx hb dX5_glueFor_5 (by decide) ?_
    refine lv_icmp_gt (tgt := 33) hx hb dX5_glueFor_7 (by decide) (fun hc_6 => ?_) (fun hc_6 => ?_)
    · rw [if_pos hc_6] at hq
      refine lv_iconst (v := (-1)) hx hb dX5_glueFor_33 (by decide) ?_
      cases hq
      exact bk_iret C hH dX5_glueFor_34
    · rw [if_neg hc_6] at hq
      refine lv_aload_n hx hb dX5_glueFor_10 rfl (lv_at hl 0 rfl) ?_
      refine lv_iload_n hx hb dX5_glueFor_11 rfl (lv_at hl 1 rfl) ?_
      refine lv_iload hx hb dX5_glueFor_12 (lv_at hl 5 rfl) ?_
      refine lv_iload_n hx hb dX5_glueFor_14 rfl (lv_at hl 2 rfl) ?_
      refine lv_iload_n hx hb dX5_glueFor_15 rfl (lv_at hl 3 rfl) ?_
      obtain ⟨hs_4, hq⟩ := bk_ck_some hq
      obtain ⟨r_2, V_3, hr_1, hq⟩ := bk_bd2_some hq
      refine bk_callV (rest := []) (As := [.int x1, .int x5, .int x2, .int x3]) (ro := (some (.int r_2))) (Y1 := Y) (V1 := V_3) C hH hl.1 (c_X5_holdsBy hr_1) mc_X5_holdsBy mv_X5_holdsBy lk_RX5_141 hs_4 rfl rfl ⟨rfl, rfl⟩ ⟨by decide, by decide⟩ rfl (Nat.le_of_ble_eq_true rfl) dX5_glueFor_16 ⟨by decide, by decide⟩ (fun H locs hH => ?_)
      refine lv_iload hx hb dX5_glueFor_19 (lv_at hl 4 rfl) ?_
      refine lv_icmp_lt (tgt := 27) hx hb dX5_glueFor_21 (by decide) (fun hc_5 => ?_) (fun hc_5 => ?_)
      · rw [if_pos hc_5] at hq
        refine lv_iinc (v := (x5 + 1)) (lv' := [(5, .int (x5 + 1)), (0, .ref a0), (1, .int x1), (2, .int x2), (3, .int x3), (4, .int x4)]) hx hb dX5_glueFor_27 hl (k := 5) rfl rfl (by decide) rfl (fun ls hl => ?_)
        refine lv_goto (tgt := 3) hx hb dX5_glueFor_30 (by decide) ?_
        exact ih _ _ _ _ _ _ _ _ _ _ _ (lv_sub hl [1, 2, 3, 4, 5, 0] rfl) hH hq
      · rw [if_neg hc_5] at hq
        refine lv_iload hx hb dX5_glueFor_24 (lv_at hl 5 rfl) ?_
        cases hq
        exact bk_iret C hH dX5_glueFor_26

set_option maxRecDepth 100000 in
set_option maxHeartbeats 4000000 in
theorem w_X5_glueFor (C : bk_C G p s m args meth c cX5_glueFor RX5 6 (some FieldType.int)) : ∀ (V : bk_Val) (a0 : Nat) (x1 : Int32) (x2 : Int32) (x3 : Int32) (x4 : Int32) (H : Heap) (locs : List Loc) (ls : Array Slot) (out : Int32 × bk_Val), lv_has ls 6 [(0, .ref a0), (1, .int x1), (2, .int x2), (3, .int x3), (4, .int x4)] → bk_H G Y V s.heap H locs → q_X5_glueFor N Y V a0 x1 x2 x3 x4 = some out → W p l e rm_X5_glueFor s m args below meth c H locs 0 0 (MQ below (bk_Q G (some (.int out.1)) Y out.2) args s 0 0 (bk_A G)) (F0 m 0 ls []) := by
  have hx := C.1
  have hb := C.2.1
  intro V a0 x1 x2 x3 x4 H locs ls out hl hH hq
  unfold q_X5_glueFor at hq
  refine lv_iconst (v := 0) hx hb dX5_glueFor_0 (by decide) ?_
  refine lv_istore (lv' := [(5, .int 0), (0, .ref a0), (1, .int x1), (2, .int x2), (3, .int x3), (4, .int x4)]) hx hb dX5_glueFor_1 hl (by decide) rfl (fun ls hl => ?_)
  exact w_X5_glueFor_3 C _ _ _ _ _ _ _ _ _ _ _ _ (lv_sub hl [1, 2, 3, 4, 5, 0] rfl) hH hq
set_option maxRecDepth 100000 in
theorem c_X5_glueFor {l : Launch} {G : bk_G} {N : Nat} {Y : bk_Lay} {V : bk_Val} {a0 : Nat} {x1 : Int32} {x2 : Int32} {x3 : Int32} {x4 : Int32} {out : Int32 × bk_Val} (hq : q_X5_glueFor N Y V a0 x1 x2 x3 x4 = some out) : Met l yX5_glueFor (bk_ws yX5_glueFor cX5_glueFor 6 (some FieldType.int)) rm_X5_glueFor (bk_Pc G [.ref a0, .int x1, .int x2, .int x3, .int x4] Y V) (bk_Q G (some (.int out.1)) Y out.2) 0 0 (bk_A G) :=
  bk_met (by decide) (Nat.le_of_ble_eq_true rfl) (fun p e s m args below meth c ls C hnm hH hl => w_X5_glueFor C _ _ _ _ _ _ _ _ _ _ hl hH hq)

def rm_X0_ofCauses : Room := bk_rm 2 1 336 45
set_option maxRecDepth 100000 in
set_option maxHeartbeats 4000000 in
theorem w_X0_ofCauses_51 (C : bk_C G p s m args meth c cX0_ofCauses RX0 4 (some (FieldType.array FieldType.long))) (k19 : bk_Lay → bk_Val → Nat → Nat → Int32 → Int32 → Option (Nat × bk_Lay × bk_Val)) (i19 : ∀ (Y : bk_Lay) (V : bk_Val) (a0 : Nat) (a1 : Nat) (x2 : Int32) (x3 : Int32) (H : Heap) (locs : List Loc) (ls : Array Slot) (out : Nat × bk_Lay × bk_Val), lv_has ls 4 [(0, .ref a0), (1, .ref a1), (2, .int x2), (3, .int x3)] → bk_H G Y V s.heap H locs → k19 Y V a0 a1 x2 x3 = some out → W p l e rm_X0_ofCauses s m args below meth c H locs 1 336 (MQ below (bk_Q G (some (.ref out.1)) out.2.1 out.2.2) args s 1 336 (bk_A G)) (F0 m 19 ls [])) : ∀ (Y : bk_Lay) (V : bk_Val) (a0 : Nat) (a1 : Nat) (x2 : Int32) (x3 : Int32) (H : Heap) (locs : List Loc) (ls : Array Slot) (out : Nat × bk_Lay × bk_Val), lv_has ls 4 [(0, .ref a0), (1, .ref a1), (2, .int x2), (3, .int x3)] → bk_H G Y V s.heap H locs → q_X0_ofCauses_51 N k19 Y V a0 a1 x2 x3 = some out → W p l e rm_X0_ofCauses s m args below meth c H locs 1 336 (MQ below (bk_Q G (some (.ref out.1)) out.2.1 out.2.2) args s 1 336 (bk_A G)) (F0 m 51 ls []) := by
  have hx := C.1
  have hb := C.2.1
  intro Y V a0 a1 x2 x3 H locs ls out hl hH hq
  unfold q_X0_ofCauses_51 at hq
  refine lv_iinc (v := (x3 + 1)) (lv' := [(3, .int (x3 + 1)), (0, .ref a0), (1, .ref a1), (2, .int x2)]) hx hb dX0_ofCauses_51 hl (k := 3) rfl rfl (by decide) rfl (fun ls hl => ?_)
  refine lv_goto (tgt := 19) hx hb dX0_ofCauses_54 (by decide) ?_
  exact i19 _ _ _ _ _ _ _ _ _ _ (lv_sub hl [1, 2, 3, 0] rfl) hH hq

set_option maxRecDepth 100000 in
set_option maxHeartbeats 4000000 in
theorem w_X0_ofCauses_19 (C : bk_C G p s m args meth c cX0_ofCauses RX0 4 (some (FieldType.array FieldType.long))) (k11 : bk_Lay → bk_Val → Nat → Nat → Int32 → Option (Nat × bk_Lay × bk_Val)) (i11 : ∀ (Y : bk_Lay) (V : bk_Val) (a0 : Nat) (a1 : Nat) (x2 : Int32) (H : Heap) (locs : List Loc) (ls : Array Slot) (out : Nat × bk_Lay × bk_Val), lv_has ls 4 [(0, .ref a0), (1, .ref a1), (2, .int x2)] → bk_H G Y V s.heap H locs → k11 Y V a0 a1 x2 = some out → W p l e rm_X0_ofCauses s m args below meth c H locs 1 336 (MQ below (bk_Q G (some (.ref out.1)) out.2.1 out.2.2) args s 1 336 (bk_A G)) (F0 m 11 ls [])) : ∀ (n : Nat), ∀ (Y : bk_Lay) (V : bk_Val) (a0 : Nat) (a1 : Nat) (x2 : Int32) (x3 : Int32) (H : Heap) (locs : List Loc) (ls : Array Slot) (out : Nat × bk_Lay × bk_Val), lv_has ls 4 [(0, .ref a0), (1, .ref a1), (2, .int x2), (3, .int x3)] → bk_H G Y V s.heap H locs → q_X0_ofCauses_19 N k11 n Y V a0 a1 x2 x3 = some out → W p l e rm_X0_ofCauses s m args below meth c H locs 1 336 (MQ below (bk_Q G (some (.ref out.1)) out.2.1 out.2.2) args s 1 336 (bk_A G)) (F0 m 19 ls []) := by
  have hx := C.1
  have hb := C.2.1
  intro n
  induction n with
  | zero =>
    intro Y V a0 a1 x2 x3 H locs ls out hl hH hq
    exact nomatch (show (none : Option (Nat × bk_Lay × bk_Val)) = some out from hq)
  | succ n ih =>
    intro Y V a0 a1 x2 x3 H locs ls out hl hH hq
    unfold q_X0_ofCauses_19 at hq
    refine lv_iload_n hx hb dX0_ofCauses_19 rfl (lv_at hl 3 rfl) ?_
    refine lv_iconst (v := 4) hx hb dX0_ofCauses_20 (by decide) ?_
    refine lv_icmp_ge (tgt := 57) hx hb dX0_ofCauses_21 (by decide) (fun hc_12 => ?_) (fun hc_12 => ?_)
    · rw [if_pos hc_12] at hq
      refine lv_iinc (v := (x2 + 1)) (lv' := [(2, .int (x2 + 1)), (0, .ref a0), (1, .ref a1), (3, .int x3)]) hx hb dX0_ofCauses_57 hl (k := 2) rfl rfl (by decide) rfl (fun ls hl => ?_)
      refine lv_goto (tgt := 11) hx hb dX0_ofCauses_60 (by decide) ?_
      exact i11 _ _ _ _ _ _ _ _ _ (lv_sub hl [1, 2, 0] rfl) hH hq
    · rw [if_neg hc_12] at hq
      refine lv_iload_n hx hb dX0_ofCauses_24 rfl (lv_at hl 3 rfl) ?_
      refine lv_iload_n hx hb dX0_ofCauses_25 rfl (lv_at hl 2 rfl) ?_
      refine lv_iconst (v := 4) hx hb dX0_ofCauses_26 (by decide) ?_
      refine lv_idiv hx hb dX0_ofCauses_27 (by decide) ?_
      refine lv_iload_n hx hb dX0_ofCauses_28 rfl (lv_at hl 2 rfl) ?_
      refine lv_iconst (v := 4) hx hb dX0_ofCauses_29 (by decide) ?_
      refine bk_irem hx hb dX0_ofCauses_30 (by decide) ?_
      obtain ⟨r_2, hr_1, hq⟩ := bk_bd_some hq
      refine bk_callS (rest := []) (As := [.int x3, .int (x2 / 4), .int (bk_rem x2 4)]) (ro := (some (.int r_2))) (Y1 := Y) (V1 := V) C hH hl.1 (c_X5_mayMake hr_1) mc_X5_mayMake st_X5_mayMake lk_RX0_15 rfl ⟨rfl, rfl⟩ ⟨by decide, by decide⟩ rfl (Nat.le_of_ble_eq_true rfl) dX0_ofCauses_31 ⟨by decide, by decide⟩ (fun H locs hH => ?_)
      refine lv_if_eq (tgt := 51) hx hb dX0_ofCauses_34 (by decide) (fun hc_11 => ?_) (fun hc_11 => ?_)
      · rw [if_pos hc_11] at hq
        exact w_X0_ofCauses_51 C _ ih _ _ _ _ _ _ _ _ _ _ (lv_sub hl [0, 1, 2, 3] rfl) hH hq
      · rw [if_neg hc_11] at hq
        refine lv_aload_n hx hb dX0_ofCauses_37 rfl (lv_at hl 1 rfl) ?_
        refine lv_iload_n hx hb dX0_ofCauses_38 rfl (lv_at hl 2 rfl) ?_
        refine lv_dup2_11 hx hb dX0_ofCauses_39 rfl rfl ?_
        obtain ⟨ha_3, hq⟩ := bk_ck_some hq
        obtain ⟨hi_4, hq⟩ := bk_ck_some hq
        refine bk_lald C hH (bk_arr ha_3) (bk_in_vp hi_4) dX0_ofCauses_40 ?_
        refine lv_aload_n hx hb dX0_ofCauses_41 rfl (lv_at hl 0 rfl) ?_
        refine lv_iload_n hx hb dX0_ofCauses_42 rfl (lv_at hl 3 rfl) ?_
        refine bk_ldc2 C kl_RX0_19 dX0_ofCauses_43 ?_
        obtain ⟨hs_7, hq⟩ := bk_ck_some hq
        obtain ⟨r_6, hr_5, hq⟩ := bk_bd_some hq
        refine bk_callV (rest := [.long (bk_rL V a1 x2.toNatClampNeg), .int x2, .ref a1]) (As := [.int x3, .long 1000000000]) (ro := (some (.long r_6))) (Y1 := Y) (V1 := V) C hH hl.1 (c_X5_shareOfCause hr_5) mc_X5_shareOfCause mv_X5_shareOfCause lk_RX0_21 hs_7 rfl rfl ⟨rfl, rfl⟩ ⟨by decide, by decide⟩ rfl (Nat.le_of_ble_eq_true rfl) dX0_ofCauses_46 ⟨by decide, by decide⟩ (fun H locs hH => ?_)
        refine lv_ladd hx hb dX0_ofCauses_49 ?_
        obtain ⟨hi_8, hq⟩ := bk_ck_some hq
        refine bk_last C hH (bk_arr ha_3) (bk_in_vp hi_8) dX0_ofCauses_50 (fun V_9 H locs e_10 hH => ?_)
        have hq := bk_let_eq e_10 hq
        exact w_X0_ofCauses_51 C _ ih _ _ _ _ _ _ _ _ _ _ (lv_sub hl [0, 1, 2, 3] rfl) hH hq

set_option maxRecDepth 100000 in
set_option maxHeartbeats 4000000 in
theorem w_X0_ofCauses_11 (C : bk_C G p s m args meth c cX0_ofCauses RX0 4 (some (FieldType.array FieldType.long))) : ∀ (n : Nat), ∀ (Y : bk_Lay) (V : bk_Val) (a0 : Nat) (a1 : Nat) (x2 : Int32) (H : Heap) (locs : List Loc) (ls : Array Slot) (out : Nat × bk_Lay × bk_Val), lv_has ls 4 [(0, .ref a0), (1, .ref a1), (2, .int x2)] → bk_H G Y V s.heap H locs → q_X0_ofCauses_11 N n Y V a0 a1 x2 = some out → W p l e rm_X0_ofCauses s m args below meth c H locs 1 336 (MQ below (bk_Q G (some (.ref out.1)) out.2.1 out.2.2) args s 1 336 (bk_A G)) (F0 m 11 ls []) := by
  have hx := C.1
  have hb := C.2.1
  intro n
  induction n with
  | zero =>
    intro Y V a0 a1 x2 H locs ls out hl hH hq
    exact nomatch (show (none : Option (Nat × bk_Lay × bk_Val)) = some out from hq)
  | succ n ih =>
    intro Y V a0 a1 x2 H locs ls out hl hH hq
    unfold q_X0_ofCauses_11 at hq
    refine lv_iload_n hx hb dX0_ofCauses_11 rfl (lv_at hl 2 rfl) ?_
    refine lv_aload_n hx hb dX0_ofCauses_12 rfl (lv_at hl 1 rfl) ?_
    obtain ⟨ha_13, hq⟩ := bk_ck_some hq
    refine bk_alen C hH (bk_arr ha_13) (by decide) dX0_ofCauses_13 ?_
    refine lv_icmp_ge (tgt := 63) hx hb dX0_ofCauses_14 (by decide) (fun hc_14 => ?_) (fun hc_14 => ?_)
    · rw [if_pos hc_14] at hq
      refine lv_aload_n hx hb dX0_ofCauses_63 rfl (lv_at hl 1 rfl) ?_
      cases hq
      exact bk_aret (Or.inr ⟨_, rfl⟩) C hH dX0_ofCauses_64
    · rw [if_neg hc_14] at hq
      refine lv_iconst (v := 0) hx hb dX0_ofCauses_17 (by decide) ?_
      refine lv_istore_n (lv' := [(3, .int 0), (0, .ref a0), (1, .ref a1), (2, .int x2)]) hx hb dX0_ofCauses_18 rfl hl (by decide) rfl (fun ls hl => ?_)
      exact w_X0_ofCauses_19 C _ ih _ _ _ _ _ _ _ _ _ _ _ (lv_sub hl [1, 2, 3, 0] rfl) hH hq

set_option maxRecDepth 100000 in
set_option maxHeartbeats 4000000 in
theorem w_X0_ofCauses (C : bk_C G p s m args meth c cX0_ofCauses RX0 4 (some (FieldType.array FieldType.long))) : ∀ (Y : bk_Lay) (V : bk_Val) (a0 : Nat) (H : Heap) (locs : List Loc) (ls : Array Slot) (out : Nat × bk_Lay × bk_Val), lv_has ls 4 [(0, .ref a0)] → bk_H G Y V s.heap H locs → q_X0_ofCauses N Y V a0 = some out → W p l e rm_X0_ofCauses s m args below meth c H locs 0 0 (MQ below (bk_Q G (some (.ref out.1)) out.2.1 out.2.2) args s 1 336 (bk_A G)) (F0 m 0 ls []) := by
  have hx := C.1
  have hb := C.2.1
  intro Y V a0 H locs ls out hl hH hq
  unfold q_X0_ofCauses at hq
  refine lv_iconst (v := 4) hx hb dX0_ofCauses_0 (by decide) ?_
  refine lv_aload_n hx hb dX0_ofCauses_1 rfl (lv_at hl 0 rfl) ?_
  obtain ⟨hs_17, hq⟩ := bk_ck_some hq
  obtain ⟨r_16, hr_15, hq⟩ := bk_bd_some hq
  refine bk_callV (rest := [.int 4]) (As := []) (ro := (some (.int r_16))) (Y1 := Y) (V1 := V) C hH hl.1 (c_X5_inches hr_15) mc_X5_inches mv_X5_inches lk_RX0_9 hs_17 rfl rfl ⟨rfl, rfl⟩ ⟨by decide, by decide⟩ rfl (Nat.le_of_ble_eq_true rfl) dX0_ofCauses_2 ⟨by decide, by decide⟩ (fun H locs hH => ?_)
  refine lv_imul hx hb dX0_ofCauses_5 ?_
  obtain ⟨hn_18, hq⟩ := bk_ck_some hq
  refine bk_newa (K := 336) C hH (Or.inr (Or.inl ⟨rfl, rfl⟩)) ac_3 hn_18.1 hn_18.2 (by decide) (by decide) (by decide) dX0_ofCauses_6 (fun Y_20 V_21 H e_22 e_23 hH => ?_)
  have hq := bk_let_eq e_22 hq
  have hq := bk_let_eq e_23 hq
  obtain ⟨b_19, e_24⟩ : ∃ z, z = bk_sz Y := ⟨_, rfl⟩
  have hq := bk_let_eq e_24 hq
  rw [← e_24]
  refine W.widen (k := 1) (n := 336) (by decide) (by decide) ?_
  refine lv_astore_n (lv' := [(1, .ref b_19), (0, .ref a0)]) hx hb dX0_ofCauses_8 rfl hl (by decide) rfl (fun ls hl => ?_)
  refine lv_iconst (v := 0) hx hb dX0_ofCauses_9 (by decide) ?_
  refine lv_istore_n (lv' := [(2, .int 0), (1, .ref b_19), (0, .ref a0)]) hx hb dX0_ofCauses_10 rfl hl (by decide) rfl (fun ls hl => ?_)
  exact w_X0_ofCauses_11 C _ _ _ _ _ _ _ _ _ _ (lv_sub hl [2, 1, 0] rfl) hH hq
set_option maxRecDepth 100000 in
theorem c_X0_ofCauses {l : Launch} {G : bk_G} {N : Nat} {Y : bk_Lay} {V : bk_Val} {a0 : Nat} {out : Nat × bk_Lay × bk_Val} (hq : q_X0_ofCauses N Y V a0 = some out) : Met l yX0_ofCauses (bk_ws yX0_ofCauses cX0_ofCauses 4 (some (FieldType.array FieldType.long))) rm_X0_ofCauses (bk_Pc G [.ref a0] Y V) (bk_Q G (some (.ref out.1)) out.2.1 out.2.2) 1 336 (bk_A G) :=
  bk_met (by decide) (Nat.le_of_ble_eq_true rfl) (fun p e s m args below meth c ls C hnm hH hl => w_X0_ofCauses C _ _ _ _ _ _ _ hl hH hq)

def rm_X6_ofNew : Room := bk_rm 3 2 341 68
set_option maxRecDepth 100000 in
set_option maxHeartbeats 4000000 in
theorem w_X6_ofNew (C : bk_C G p s m args meth c cX6_ofNew RX6 1 (some (FieldType.object "BucketTube$State"))) : ∀ (Y : bk_Lay) (V : bk_Val) (a0 : Nat) (H : Heap) (locs : List Loc) (ls : Array Slot) (out : Nat × bk_Lay × bk_Val), lv_has ls 1 [(0, .ref a0)] → bk_H G Y V s.heap H locs → q_X6_ofNew N Y V a0 = some out → W p l e rm_X6_ofNew s m args below meth c H locs 0 0 (MQ below (bk_Q G (some (.ref out.1)) out.2.1 out.2.2) args s 2 341 (bk_A G)) (F0 m 0 ls []) := by
  have hx := C.1
  have hb := C.2.1
  intro Y V a0 H locs ls out hl hH hq
  unfold q_X6_ofNew at hq
  refine bk_new C hH ok_5 cl_RX6_8 ib_RX6 in_RX6 (by decide) (by decide) dX6_ofNew_0 (fun Y_2 V_3 H e_4 e_5 hH => ?_)
  have hq := bk_let_eq e_4 hq
  have hq := bk_let_eq e_5 hq
  obtain ⟨b_1, e_6⟩ : ∃ z, z = bk_sz Y := ⟨_, rfl⟩
  have hq := bk_let_eq e_6 hq
  rw [← e_6]
  refine W.widen (k := 1) (n := 5) (by decide) (by decide) ?_
  refine lv_dup hx hb dX6_ofNew_3 rfl ?_
  refine lv_null hx hb dX6_ofNew_4 ?_
  refine lv_aload_n hx hb dX6_ofNew_5 rfl (lv_at hl 0 rfl) ?_
  obtain ⟨hs_9, hq⟩ := bk_ck_some hq
  obtain ⟨r_8, hr_7, hq⟩ := bk_bd_some hq
  refine bk_callV (rest := [.null, .ref b_1, .ref b_1]) (As := []) (ro := (some (.int r_8))) (Y1 := Y_2) (V1 := V_3) C hH hl.1 (c_X5_fullPressure hr_7) mc_X5_fullPressure mv_X5_fullPressure lk_RX6_27 hs_9 rfl rfl ⟨rfl, rfl⟩ ⟨by decide, by decide⟩ rfl (Nat.le_of_ble_eq_true rfl) dX6_ofNew_6 ⟨by decide, by decide⟩ (fun H locs hH => ?_)
  refine lv_iconst (v := 0) hx hb dX6_ofNew_9 (by decide) ?_
  refine lv_iconst (v := 0) hx hb dX6_ofNew_10 (by decide) ?_
  refine lv_aload_n hx hb dX6_ofNew_11 rfl (lv_at hl 0 rfl) ?_
  obtain ⟨b_11, Y_12, V_13, hr_10, hq⟩ := bk_bd3_some hq
  refine bk_callS (rest := [.int 0, .int 0, .int r_8, .null, .ref b_1, .ref b_1]) (As := [.ref a0]) (ro := (some (.ref b_11))) (Y1 := Y_12) (V1 := V_13) C hH hl.1 (c_X0_ofCauses hr_10) mc_X0_ofCauses st_X0_ofCauses lk_RX6_33 rfl ⟨rfl, rfl⟩ ⟨by decide, by decide⟩ rfl (Nat.le_of_ble_eq_true rfl) dX6_ofNew_12 ⟨by decide, by decide⟩ (fun H locs hH => ?_)
  refine W.widen (k := 2) (n := 341) (by decide) (by decide) ?_
  obtain ⟨Y_15, V_16, hr_14, hq⟩ := bk_bd2_some hq
  refine bk_callI (b := b_1) (rest := [.ref b_1]) (As := [.null, .int r_8, .int 0, .int 0, .ref b_11]) (Y1 := Y_15) (V1 := V_16) C hH hl.1 (c_X6_init_n hr_14) mc_X6_init im_X6_init rfl lk_RX6_39 rfl ⟨rfl, rfl⟩ ⟨by decide, by decide⟩ rfl (Nat.le_of_ble_eq_true rfl) dX6_ofNew_15 ⟨by decide, by decide⟩ (fun H locs hH => ?_)
  cases hq
  exact bk_aret (Or.inl ⟨_, rfl⟩) C hH dX6_ofNew_18
set_option maxRecDepth 100000 in
theorem c_X6_ofNew {l : Launch} {G : bk_G} {N : Nat} {Y : bk_Lay} {V : bk_Val} {a0 : Nat} {out : Nat × bk_Lay × bk_Val} (hq : q_X6_ofNew N Y V a0 = some out) : Met l yX6_ofNew (bk_ws yX6_ofNew cX6_ofNew 1 (some (FieldType.object "BucketTube$State"))) rm_X6_ofNew (bk_Pc G [.ref a0] Y V) (bk_Q G (some (.ref out.1)) out.2.1 out.2.2) 2 341 (bk_A G) :=
  bk_met (by decide) (Nat.le_of_ble_eq_true rfl) (fun p e s m args below meth c ls C hnm hH hl => w_X6_ofNew C _ _ _ _ _ _ _ hl hH hq)

def rm_X3_forget : Room := bk_rm 0 0 0 0
set_option maxRecDepth 100000 in
set_option maxHeartbeats 4000000 in
theorem w_X3_forget (C : bk_C G p s m args meth c cX3_forget RX3 1 (none : Option FieldType)) : ∀ (V : bk_Val) (a0 : Nat) (H : Heap) (locs : List Loc) (ls : Array Slot) (out : bk_Val), lv_has ls 1 [(0, .ref a0)] → bk_H G Y V s.heap H locs → q_X3_forget N Y V a0 = some out → W p l e rm_X3_forget s m args below meth c H locs 0 0 (MQ below (bk_Q G none Y out) args s 0 0 (bk_A G)) (F0 m 0 ls []) := by
  have hx := C.1
  have hb := C.2.1
  intro V a0 H locs ls out hl hH hq
  unfold q_X3_forget at hq
  refine lv_aload_n hx hb dX3_forget_0 rfl (lv_at hl 0 rfl) ?_
  refine lv_iconst (v := 0) hx hb dX3_forget_1 (by decide) ?_
  obtain ⟨hs_1, hq⟩ := bk_ck_some hq
  refine bk_putz C hH fp_RX3_25 (fun h => by cases h) hs_1 rfl (Or.inl rfl) dX3_forget_2 (fun V_2 H locs e_3 hH => ?_)
  have hq := bk_let_eq e_3 hq
  cases hq
  exact bk_vret C hH dX3_forget_5
set_option maxRecDepth 100000 in
theorem c_X3_forget {l : Launch} {G : bk_G} {N : Nat} {Y : bk_Lay} {V : bk_Val} {a0 : Nat} {out : bk_Val} (hq : q_X3_forget N Y V a0 = some out) : Met l yX3_forget (bk_ws yX3_forget cX3_forget 1 (none : Option FieldType)) rm_X3_forget (bk_Pc G [.ref a0] Y V) (bk_Q G none Y out) 0 0 (bk_A G) :=
  bk_met (by decide) (Nat.le_of_ble_eq_true rfl) (fun p e s m args below meth c ls C hnm hH hl => w_X3_forget C _ _ _ _ _ _ hl hH hq)

def rm_X5_quarterOf : Room := bk_rm 1 0 0 21
set_option maxRecDepth 100000 in
set_option maxHeartbeats 4000000 in
theorem w_X5_quarterOf (C : bk_C G p s m args meth c cX5_quarterOf RX5 2 (some FieldType.int)) : ∀ (V : bk_Val) (a0 : Nat) (x1 : Int32) (H : Heap) (locs : List Loc) (ls : Array Slot) (out : Int32), lv_has ls 2 [(0, .ref a0), (1, .int x1)] → bk_H G Y V s.heap H locs → q_X5_quarterOf N Y V a0 x1 = some out → W p l e rm_X5_quarterOf s m args below meth c H locs 0 0 (MQ below (bk_Q G (some (.int out)) Y V) args s 0 0 (bk_A G)) (F0 m 0 ls []) := by
  have hx := C.1
  have hb := C.2.1
  intro V a0 x1 H locs ls out hl hH hq
  unfold q_X5_quarterOf at hq
  refine lv_iload_n hx hb dX5_quarterOf_0 rfl (lv_at hl 1 rfl) ?_
  refine lv_iconst (v := 4) hx hb dX5_quarterOf_1 (by decide) ?_
  refine lv_imul hx hb dX5_quarterOf_2 ?_
  refine lv_aload_n hx hb dX5_quarterOf_3 rfl (lv_at hl 0 rfl) ?_
  obtain ⟨hs_3, hq⟩ := bk_ck_some hq
  obtain ⟨r_2, hr_1, hq⟩ := bk_bd_some hq
  refine bk_callV (rest := [.int (x1 * 4)]) (As := []) (ro := (some (.int r_2))) (Y1 := Y) (V1 := V) C hH hl.1 (c_X5_inches hr_1) mc_X5_inches mv_X5_inches lk_RX5_71 hs_3 rfl rfl ⟨rfl, rfl⟩ ⟨by decide, by decide⟩ rfl (Nat.le_of_ble_eq_true rfl) dX5_quarterOf_4 ⟨by decide, by decide⟩ (fun H locs hH => ?_)
  refine lv_bipush (v := 12) hx hb dX5_quarterOf_7 (by decide) ?_
  obtain ⟨r_5, hr_4, hq⟩ := bk_bd_some hq
  refine bk_callS (rest := [.int (x1 * 4)]) (As := [.int r_2, .int 12]) (ro := (some (.int r_5))) (Y1 := Y) (V1 := V) C hH hl.1 (c_J9_max_7cf53 hr_4) mc_J9_max_7cf53 st_J9_max_7cf53 lk_RX5_62 rfl ⟨rfl, rfl⟩ ⟨by decide, by decide⟩ rfl (Nat.le_of_ble_eq_true rfl) dX5_quarterOf_9 ⟨by decide, by decide⟩ (fun H locs hH => ?_)
  obtain ⟨hd_6, hq⟩ := bk_ck_some hq
  refine lv_idiv hx hb dX5_quarterOf_12 hd_6 ?_
  cases hq
  exact bk_iret C hH dX5_quarterOf_13
set_option maxRecDepth 100000 in
theorem c_X5_quarterOf {l : Launch} {G : bk_G} {N : Nat} {Y : bk_Lay} {V : bk_Val} {a0 : Nat} {x1 : Int32} {out : Int32} (hq : q_X5_quarterOf N Y V a0 x1 = some out) : Met l yX5_quarterOf (bk_ws yX5_quarterOf cX5_quarterOf 2 (some FieldType.int)) rm_X5_quarterOf (bk_Pc G [.ref a0, .int x1] Y V) (bk_Q G (some (.int out)) Y V) 0 0 (bk_A G) :=
  bk_met (by decide) (Nat.le_of_ble_eq_true rfl) (fun p e s m args below meth c ls C hnm hH hl => w_X5_quarterOf C _ _ _ _ _ _ _ hl hH hq)

def rm_X2_tacksFit : Room := bk_rm 1 0 0 22
set_option maxRecDepth 100000 in
set_option maxHeartbeats 4000000 in
theorem w_X2_tacksFit_44 (C : bk_C G p s m args meth c cX2_tacksFit RX2 5 (some FieldType.boolean)) (k2 : bk_Val → Nat → Int32 → Int32 → Int32 → Option (Int32)) (i2 : ∀ (V : bk_Val) (a0 : Nat) (x1 : Int32) (x2 : Int32) (x3 : Int32) (H : Heap) (locs : List Loc) (ls : Array Slot) (out : Int32), lv_has ls 5 [(0, .ref a0), (1, .int x1), (2, .int x2), (3, .int x3)] → bk_H G Y V s.heap H locs → k2 V a0 x1 x2 x3 = some out → W p l e rm_X2_tacksFit s m args below meth c H locs 0 0 (MQ below (bk_Q G (some (.int out)) Y V) args s 0 0 (bk_A G)) (F0 m 2 ls [])) : ∀ (V : bk_Val) (a0 : Nat) (x1 : Int32) (x2 : Int32) (x3 : Int32) (sx0 : Int32) (H : Heap) (locs : List Loc) (ls : Array Slot) (out : Int32), lv_has ls 5 [(0, .ref a0), (1, .int x1), (2, .int x2), (3, .int x3)] → bk_H G Y V s.heap H locs → q_X2_tacksFit_44 N Y k2 V a0 x1 x2 x3 sx0 = some out → W p l e rm_X2_tacksFit s m args below meth c H locs 0 0 (MQ below (bk_Q G (some (.int out)) Y V) args s 0 0 (bk_A G)) (F0 m 44 ls [.int sx0]) := by
  have hx := C.1
  have hb := C.2.1
  intro V a0 x1 x2 x3 sx0 H locs ls out hl hH hq
  unfold q_X2_tacksFit_44 at hq
  refine lv_istore (lv' := [(4, .int sx0), (0, .ref a0), (1, .int x1), (2, .int x2), (3, .int x3)]) hx hb dX2_tacksFit_44 hl (by decide) rfl (fun ls hl => ?_)
  refine lv_iload hx hb dX2_tacksFit_46 (lv_at hl 0 rfl) ?_
  refine lv_aload_n hx hb dX2_tacksFit_48 rfl (lv_at hl 1 rfl) ?_
  obtain ⟨hs_1, hq⟩ := bk_ck_some hq
  obtain ⟨b_2, hr_3, hq⟩ := bk_bd_some hq
  refine bk_getr C hH fl_RX2_21 hs_1 rfl hr_3 dX2_tacksFit_49 ?_
  refine lv_iload_n hx hb dX2_tacksFit_52 rfl (lv_at hl 4 rfl) ?_
  obtain ⟨ha_4, hq⟩ := bk_ck_some hq
  obtain ⟨hi_5, hq⟩ := bk_ck_some hq
  refine bk_zald C hH (bk_arr ha_4) (bk_in_vp hi_5) dX2_tacksFit_53 ?_
  refine lv_icmp_eq (tgt := 59) hx hb dX2_tacksFit_54 (by decide) (fun hc_6 => ?_) (fun hc_6 => ?_)
  · rw [if_pos hc_6] at hq
    refine lv_iinc (v := (x3 + 1)) (lv' := [(3, .int (x3 + 1)), (4, .int sx0), (0, .ref a0), (1, .int x1), (2, .int x2)]) hx hb dX2_tacksFit_59 hl (k := 4) rfl rfl (by decide) rfl (fun ls hl => ?_)
    refine lv_goto (tgt := 2) hx hb dX2_tacksFit_62 (by decide) ?_
    exact i2 _ _ _ _ _ _ _ _ _ (lv_sub hl [2, 3, 4, 0] rfl) hH hq
  · rw [if_neg hc_6] at hq
    refine lv_iconst (v := 0) hx hb dX2_tacksFit_57 (by decide) ?_
    cases hq
    exact bk_zret C hH (Or.inl rfl) dX2_tacksFit_58

set_option maxRecDepth 100000 in
set_option maxHeartbeats 4000000 in
theorem w_X2_tacksFit_43 (C : bk_C G p s m args meth c cX2_tacksFit RX2 5 (some FieldType.boolean)) (k2 : bk_Val → Nat → Int32 → Int32 → Int32 → Option (Int32)) (i2 : ∀ (V : bk_Val) (a0 : Nat) (x1 : Int32) (x2 : Int32) (x3 : Int32) (H : Heap) (locs : List Loc) (ls : Array Slot) (out : Int32), lv_has ls 5 [(0, .ref a0), (1, .int x1), (2, .int x2), (3, .int x3)] → bk_H G Y V s.heap H locs → k2 V a0 x1 x2 x3 = some out → W p l e rm_X2_tacksFit s m args below meth c H locs 0 0 (MQ below (bk_Q G (some (.int out)) Y V) args s 0 0 (bk_A G)) (F0 m 2 ls [])) : ∀ (V : bk_Val) (a0 : Nat) (x1 : Int32) (x2 : Int32) (x3 : Int32) (H : Heap) (locs : List Loc) (ls : Array Slot) (out : Int32), lv_has ls 5 [(0, .ref a0), (1, .int x1), (2, .int x2), (3, .int x3)] → bk_H G Y V s.heap H locs → q_X2_tacksFit_43 N Y k2 V a0 x1 x2 x3 = some out → W p l e rm_X2_tacksFit s m args below meth c H locs 0 0 (MQ below (bk_Q G (some (.int out)) Y V) args s 0 0 (bk_A G)) (F0 m 43 ls []) := by
  have hx := C.1
  have hb := C.2.1
  intro V a0 x1 x2 x3 H locs ls out hl hH hq
  unfold q_X2_tacksFit_43 at hq
  refine lv_iconst (v := 0) hx hb dX2_tacksFit_43 (by decide) ?_
  exact w_X2_tacksFit_44 C _ i2 _ _ _ _ _ _ _ _ _ _ (lv_sub hl [0, 1, 2, 3] rfl) hH hq

set_option maxRecDepth 100000 in
set_option maxHeartbeats 4000000 in
theorem w_X2_tacksFit_2 (C : bk_C G p s m args meth c cX2_tacksFit RX2 5 (some FieldType.boolean)) : ∀ (n : Nat), ∀ (V : bk_Val) (a0 : Nat) (x1 : Int32) (x2 : Int32) (x3 : Int32) (H : Heap) (locs : List Loc) (ls : Array Slot) (out : Int32), lv_has ls 5 [(0, .ref a0), (1, .int x1), (2, .int x2), (3, .int x3)] → bk_H G Y V s.heap H locs → q_X2_tacksFit_2 N Y n V a0 x1 x2 x3 = some out → W p l e rm_X2_tacksFit s m args below meth c H locs 0 0 (MQ below (bk_Q G (some (.int out)) Y V) args s 0 0 (bk_A G)) (F0 m 2 ls []) := by
  have hx := C.1
  have hb := C.2.1
  intro n
  induction n with
  | zero =>
    intro V a0 x1 x2 x3 H locs ls out hl hH hq
    exact nomatch (show (none : Option (Int32)) = some out from hq)
  | succ n ih =>
    intro V a0 x1 x2 x3 H locs ls out hl hH hq
    unfold q_X2_tacksFit_2 at hq
    refine lv_iload_n hx hb dX2_tacksFit_2 rfl (lv_at hl 3 rfl) ?_
    refine lv_aload_n hx hb dX2_tacksFit_3 rfl (lv_at hl 0 rfl) ?_
    obtain ⟨hs_7, hq⟩ := bk_ck_some hq
    refine bk_geti C hH fl_RX2_25 hs_7 rfl dX2_tacksFit_4 ?_
    refine lv_icmp_ge (tgt := 65) hx hb dX2_tacksFit_7 (by decide) (fun hc_24 => ?_) (fun hc_24 => ?_)
    · rw [if_pos hc_24] at hq
      refine lv_iconst (v := 1) hx hb dX2_tacksFit_65 (by decide) ?_
      cases hq
      exact bk_zret C hH (Or.inr rfl) dX2_tacksFit_66
    · rw [if_neg hc_24] at hq
      refine lv_iload_n hx hb dX2_tacksFit_10 rfl (lv_at hl 1 rfl) ?_
      refine lv_aload_n hx hb dX2_tacksFit_11 rfl (lv_at hl 0 rfl) ?_
      obtain ⟨b_8, hr_9, hq⟩ := bk_bd_some hq
      refine bk_getr C hH fl_RX2_9 hs_7 rfl hr_9 dX2_tacksFit_12 ?_
      refine lv_iload_n hx hb dX2_tacksFit_15 rfl (lv_at hl 3 rfl) ?_
      obtain ⟨ha_10, hq⟩ := bk_ck_some hq
      obtain ⟨hi_11, hq⟩ := bk_ck_some hq
      refine bk_iald C hH (bk_arr ha_10) (bk_in_vp hi_11) dX2_tacksFit_16 ?_
      refine lv_aload_n hx hb dX2_tacksFit_17 rfl (lv_at hl 0 rfl) ?_
      obtain ⟨b_12, hr_13, hq⟩ := bk_bd_some hq
      refine bk_getr C hH fl_RX2_15 hs_7 rfl hr_13 dX2_tacksFit_18 ?_
      refine lv_iload_n hx hb dX2_tacksFit_21 rfl (lv_at hl 3 rfl) ?_
      obtain ⟨ha_14, hq⟩ := bk_ck_some hq
      obtain ⟨hi_15, hq⟩ := bk_ck_some hq
      refine bk_iald C hH (bk_arr ha_14) (bk_in_vp hi_15) dX2_tacksFit_22 ?_
      obtain ⟨r_17, hr_16, hq⟩ := bk_bd_some hq
      refine bk_callS (rest := []) (As := [.int x1, .int (bk_rI V b_8 x3.toNatClampNeg), .int (bk_rI V b_12 x3.toNatClampNeg)]) (ro := (some (.int r_17))) (Y1 := Y) (V1 := V) C hH hl.1 (c_X11_isWithin hr_16) mc_X11_isWithin st_X11_isWithin lk_RX2_42 rfl ⟨rfl, rfl⟩ ⟨by decide, by decide⟩ rfl (Nat.le_of_ble_eq_true rfl) dX2_tacksFit_23 ⟨by decide, by decide⟩ (fun H locs hH => ?_)
      refine lv_if_eq (tgt := 43) hx hb dX2_tacksFit_26 (by decide) (fun hc_23 => ?_) (fun hc_23 => ?_)
      · rw [if_pos hc_23] at hq
        exact w_X2_tacksFit_43 C _ ih _ _ _ _ _ _ _ _ _ (lv_sub hl [0, 1, 2, 3] rfl) hH hq
      · rw [if_neg hc_23] at hq
        refine lv_aload_n hx hb dX2_tacksFit_29 rfl (lv_at hl 0 rfl) ?_
        obtain ⟨b_18, hr_19, hq⟩ := bk_bd_some hq
        refine bk_getr C hH fl_RX2_18 hs_7 rfl hr_19 dX2_tacksFit_30 ?_
        refine lv_iload_n hx hb dX2_tacksFit_33 rfl (lv_at hl 3 rfl) ?_
        obtain ⟨ha_20, hq⟩ := bk_ck_some hq
        obtain ⟨hi_21, hq⟩ := bk_ck_some hq
        refine bk_iald C hH (bk_arr ha_20) (bk_in_vp hi_21) dX2_tacksFit_34 ?_
        refine lv_iload_n hx hb dX2_tacksFit_35 rfl (lv_at hl 2 rfl) ?_
        refine lv_icmp_lt (tgt := 43) hx hb dX2_tacksFit_36 (by decide) (fun hc_22 => ?_) (fun hc_22 => ?_)
        · rw [if_pos hc_22] at hq
          exact w_X2_tacksFit_43 C _ ih _ _ _ _ _ _ _ _ _ (lv_sub hl [0, 1, 2, 3] rfl) hH hq
        · rw [if_neg hc_22] at hq
          refine lv_iconst (v := 1) hx hb dX2_tacksFit_39 (by decide) ?_
          refine lv_goto (tgt := 44) hx hb dX2_tacksFit_40 (by decide) ?_
          exact w_X2_tacksFit_44 C _ ih _ _ _ _ _ _ _ _ _ _ (lv_sub hl [0, 1, 2, 3] rfl) hH hq

set_option maxRecDepth 100000 in
set_option maxHeartbeats 4000000 in
theorem w_X2_tacksFit (C : bk_C G p s m args meth c cX2_tacksFit RX2 5 (some FieldType.boolean)) : ∀ (V : bk_Val) (a0 : Nat) (x1 : Int32) (x2 : Int32) (H : Heap) (locs : List Loc) (ls : Array Slot) (out : Int32), lv_has ls 5 [(0, .ref a0), (1, .int x1), (2, .int x2)] → bk_H G Y V s.heap H locs → q_X2_tacksFit N Y V a0 x1 x2 = some out → W p l e rm_X2_tacksFit s m args below meth c H locs 0 0 (MQ below (bk_Q G (some (.int out)) Y V) args s 0 0 (bk_A G)) (F0 m 0 ls []) := by
  have hx := C.1
  have hb := C.2.1
  intro V a0 x1 x2 H locs ls out hl hH hq
  unfold q_X2_tacksFit at hq
  refine lv_iconst (v := 0) hx hb dX2_tacksFit_0 (by decide) ?_
  refine lv_istore_n (lv' := [(3, .int 0), (0, .ref a0), (1, .int x1), (2, .int x2)]) hx hb dX2_tacksFit_1 rfl hl (by decide) rfl (fun ls hl => ?_)
  exact w_X2_tacksFit_2 C _ _ _ _ _ _ _ _ _ _ (lv_sub hl [1, 2, 3, 0] rfl) hH hq
set_option maxRecDepth 100000 in
theorem c_X2_tacksFit {l : Launch} {G : bk_G} {N : Nat} {Y : bk_Lay} {V : bk_Val} {a0 : Nat} {x1 : Int32} {x2 : Int32} {out : Int32} (hq : q_X2_tacksFit N Y V a0 x1 x2 = some out) : Met l yX2_tacksFit (bk_ws yX2_tacksFit cX2_tacksFit 5 (some FieldType.boolean)) rm_X2_tacksFit (bk_Pc G [.ref a0, .int x1, .int x2] Y V) (bk_Q G (some (.int out)) Y V) 0 0 (bk_A G) :=
  bk_met (by decide) (Nat.le_of_ble_eq_true rfl) (fun p e s m args below meth c ls C hnm hH hl => w_X2_tacksFit C _ _ _ _ _ _ _ _ hl hH hq)

def rm_X2_hoursFitting : Room := bk_rm 2 0 0 46
set_option maxRecDepth 100000 in
set_option maxHeartbeats 4000000 in
theorem w_X2_hoursFitting_25 (C : bk_C G p s m args meth c cX2_hoursFitting RX2 4 (some FieldType.int)) (k4 : bk_Val → Nat → Int32 → Int32 → Int32 → Option (Int32)) (i4 : ∀ (V : bk_Val) (a0 : Nat) (x1 : Int32) (x2 : Int32) (x3 : Int32) (H : Heap) (locs : List Loc) (ls : Array Slot) (out : Int32), lv_has ls 4 [(0, .ref a0), (1, .int x1), (2, .int x2), (3, .int x3)] → bk_H G Y V s.heap H locs → k4 V a0 x1 x2 x3 = some out → W p l e rm_X2_hoursFitting s m args below meth c H locs 0 0 (MQ below (bk_Q G (some (.int out)) Y V) args s 0 0 (bk_A G)) (F0 m 4 ls [])) : ∀ (V : bk_Val) (a0 : Nat) (x1 : Int32) (x3 : Int32) (sx0 : Int32) (sx1 : Int32) (H : Heap) (locs : List Loc) (ls : Array Slot) (out : Int32), lv_has ls 4 [(0, .ref a0), (1, .int x1), (3, .int x3)] → bk_H G Y V s.heap H locs → q_X2_hoursFitting_25 N Y k4 V a0 x1 x3 sx0 sx1 = some out → W p l e rm_X2_hoursFitting s m args below meth c H locs 0 0 (MQ below (bk_Q G (some (.int out)) Y V) args s 0 0 (bk_A G)) (F0 m 25 ls [.int sx1, .int sx0]) := by
  have hx := C.1
  have hb := C.2.1
  intro V a0 x1 x3 sx0 sx1 H locs ls out hl hH hq
  unfold q_X2_hoursFitting_25 at hq
  refine lv_iadd hx hb dX2_hoursFitting_25 ?_
  refine lv_istore_n (lv' := [(2, .int (sx0 + sx1)), (0, .ref a0), (1, .int x1), (3, .int x3)]) hx hb dX2_hoursFitting_26 rfl hl (by decide) rfl (fun ls hl => ?_)
  refine lv_iinc (v := (x3 + 1)) (lv' := [(3, .int (x3 + 1)), (2, .int (sx0 + sx1)), (0, .ref a0), (1, .int x1)]) hx hb dX2_hoursFitting_27 hl (k := 3) rfl rfl (by decide) rfl (fun ls hl => ?_)
  refine lv_goto (tgt := 4) hx hb dX2_hoursFitting_30 (by decide) ?_
  exact i4 _ _ _ _ _ _ _ _ _ (lv_sub hl [2, 3, 1, 0] rfl) hH hq

set_option maxRecDepth 100000 in
set_option maxHeartbeats 4000000 in
theorem w_X2_hoursFitting_4 (C : bk_C G p s m args meth c cX2_hoursFitting RX2 4 (some FieldType.int)) : ∀ (n : Nat), ∀ (V : bk_Val) (a0 : Nat) (x1 : Int32) (x2 : Int32) (x3 : Int32) (H : Heap) (locs : List Loc) (ls : Array Slot) (out : Int32), lv_has ls 4 [(0, .ref a0), (1, .int x1), (2, .int x2), (3, .int x3)] → bk_H G Y V s.heap H locs → q_X2_hoursFitting_4 N Y n V a0 x1 x2 x3 = some out → W p l e rm_X2_hoursFitting s m args below meth c H locs 0 0 (MQ below (bk_Q G (some (.int out)) Y V) args s 0 0 (bk_A G)) (F0 m 4 ls []) := by
  have hx := C.1
  have hb := C.2.1
  intro n
  induction n with
  | zero =>
    intro V a0 x1 x2 x3 H locs ls out hl hH hq
    exact nomatch (show (none : Option (Int32)) = some out from hq)
  | succ n ih =>
    intro V a0 x1 x2 x3 H locs ls out hl hH hq
    unfold q_X2_hoursFitting_4 at hq
    refine lv_iload_n hx hb dX2_hoursFitting_4 rfl (lv_at hl 3 rfl) ?_
    refine lv_bipush (v := 24) hx hb dX2_hoursFitting_5 (by decide) ?_
    refine lv_icmp_ge (tgt := 33) hx hb dX2_hoursFitting_7 (by decide) (fun hc_5 => ?_) (fun hc_5 => ?_)
    · rw [if_pos hc_5] at hq
      refine lv_iload_n hx hb dX2_hoursFitting_33 rfl (lv_at hl 2 rfl) ?_
      cases hq
      exact bk_iret C hH dX2_hoursFitting_34
    · rw [if_neg hc_5] at hq
      refine lv_iload_n hx hb dX2_hoursFitting_10 rfl (lv_at hl 2 rfl) ?_
      refine lv_aload_n hx hb dX2_hoursFitting_11 rfl (lv_at hl 0 rfl) ?_
      refine lv_iload_n hx hb dX2_hoursFitting_12 rfl (lv_at hl 1 rfl) ?_
      refine lv_iload_n hx hb dX2_hoursFitting_13 rfl (lv_at hl 3 rfl) ?_
      obtain ⟨hs_3, hq⟩ := bk_ck_some hq
      obtain ⟨r_2, hr_1, hq⟩ := bk_bd_some hq
      refine bk_callV (rest := [.int x2]) (As := [.int x1, .int x3]) (ro := (some (.int r_2))) (Y1 := Y) (V1 := V) C hH hl.1 (c_X2_tacksFit hr_1) mc_X2_tacksFit mv_X2_tacksFit lk_RX2_38 hs_3 rfl rfl ⟨rfl, rfl⟩ ⟨by decide, by decide⟩ rfl (Nat.le_of_ble_eq_true rfl) dX2_hoursFitting_14 ⟨by decide, by decide⟩ (fun H locs hH => ?_)
      refine lv_if_eq (tgt := 24) hx hb dX2_hoursFitting_17 (by decide) (fun hc_4 => ?_) (fun hc_4 => ?_)
      · rw [if_pos hc_4] at hq
        refine lv_iconst (v := 0) hx hb dX2_hoursFitting_24 (by decide) ?_
        exact w_X2_hoursFitting_25 C _ ih _ _ _ _ _ _ _ _ _ _ (lv_sub hl [0, 1, 3] rfl) hH hq
      · rw [if_neg hc_4] at hq
        refine lv_iconst (v := 1) hx hb dX2_hoursFitting_20 (by decide) ?_
        refine lv_goto (tgt := 25) hx hb dX2_hoursFitting_21 (by decide) ?_
        exact w_X2_hoursFitting_25 C _ ih _ _ _ _ _ _ _ _ _ _ (lv_sub hl [0, 1, 3] rfl) hH hq

set_option maxRecDepth 100000 in
set_option maxHeartbeats 4000000 in
theorem w_X2_hoursFitting (C : bk_C G p s m args meth c cX2_hoursFitting RX2 4 (some FieldType.int)) : ∀ (V : bk_Val) (a0 : Nat) (x1 : Int32) (H : Heap) (locs : List Loc) (ls : Array Slot) (out : Int32), lv_has ls 4 [(0, .ref a0), (1, .int x1)] → bk_H G Y V s.heap H locs → q_X2_hoursFitting N Y V a0 x1 = some out → W p l e rm_X2_hoursFitting s m args below meth c H locs 0 0 (MQ below (bk_Q G (some (.int out)) Y V) args s 0 0 (bk_A G)) (F0 m 0 ls []) := by
  have hx := C.1
  have hb := C.2.1
  intro V a0 x1 H locs ls out hl hH hq
  unfold q_X2_hoursFitting at hq
  refine lv_iconst (v := 0) hx hb dX2_hoursFitting_0 (by decide) ?_
  refine lv_istore_n (lv' := [(2, .int 0), (0, .ref a0), (1, .int x1)]) hx hb dX2_hoursFitting_1 rfl hl (by decide) rfl (fun ls hl => ?_)
  refine lv_iconst (v := 0) hx hb dX2_hoursFitting_2 (by decide) ?_
  refine lv_istore_n (lv' := [(3, .int 0), (2, .int 0), (0, .ref a0), (1, .int x1)]) hx hb dX2_hoursFitting_3 rfl hl (by decide) rfl (fun ls hl => ?_)
  exact w_X2_hoursFitting_4 C _ _ _ _ _ _ _ _ _ _ (lv_sub hl [2, 3, 1, 0] rfl) hH hq
set_option maxRecDepth 100000 in
theorem c_X2_hoursFitting {l : Launch} {G : bk_G} {N : Nat} {Y : bk_Lay} {V : bk_Val} {a0 : Nat} {x1 : Int32} {out : Int32} (hq : q_X2_hoursFitting N Y V a0 x1 = some out) : Met l yX2_hoursFitting (bk_ws yX2_hoursFitting cX2_hoursFitting 4 (some FieldType.int)) rm_X2_hoursFitting (bk_Pc G [.ref a0, .int x1] Y V) (bk_Q G (some (.int out)) Y V) 0 0 (bk_A G) :=
  bk_met (by decide) (Nat.le_of_ble_eq_true rfl) (fun p e s m args below meth c ls C hnm hH hl => w_X2_hoursFitting C _ _ _ _ _ _ _ hl hH hq)

def rm_X2_firstHourFitting : Room := bk_rm 2 0 0 46
set_option maxRecDepth 100000 in
set_option maxHeartbeats 4000000 in
theorem w_X2_firstHourFitting_2 (C : bk_C G p s m args meth c cX2_firstHourFitting RX2 3 (some FieldType.int)) : ∀ (n : Nat), ∀ (V : bk_Val) (a0 : Nat) (x1 : Int32) (x2 : Int32) (H : Heap) (locs : List Loc) (ls : Array Slot) (out : Int32), lv_has ls 3 [(0, .ref a0), (1, .int x1), (2, .int x2)] → bk_H G Y V s.heap H locs → q_X2_firstHourFitting_2 N Y n V a0 x1 x2 = some out → W p l e rm_X2_firstHourFitting s m args below meth c H locs 0 0 (MQ below (bk_Q G (some (.int out)) Y V) args s 0 0 (bk_A G)) (F0 m 2 ls []) := by
  have hx := C.1
  have hb := C.2.1
  intro n
  induction n with
  | zero =>
    intro V a0 x1 x2 H locs ls out hl hH hq
    exact nomatch (show (none : Option (Int32)) = some out from hq)
  | succ n ih =>
    intro V a0 x1 x2 H locs ls out hl hH hq
    unfold q_X2_firstHourFitting_2 at hq
    refine lv_iload_n hx hb dX2_firstHourFitting_2 rfl (lv_at hl 2 rfl) ?_
    refine lv_bipush (v := 24) hx hb dX2_firstHourFitting_3 (by decide) ?_
    refine lv_icmp_ge (tgt := 25) hx hb dX2_firstHourFitting_5 (by decide) (fun hc_5 => ?_) (fun hc_5 => ?_)
    · rw [if_pos hc_5] at hq
      refine lv_iconst (v := (-1)) hx hb dX2_firstHourFitting_25 (by decide) ?_
      cases hq
      exact bk_iret C hH dX2_firstHourFitting_26
    · rw [if_neg hc_5] at hq
      refine lv_aload_n hx hb dX2_firstHourFitting_8 rfl (lv_at hl 0 rfl) ?_
      refine lv_iload_n hx hb dX2_firstHourFitting_9 rfl (lv_at hl 1 rfl) ?_
      refine lv_iload_n hx hb dX2_firstHourFitting_10 rfl (lv_at hl 2 rfl) ?_
      obtain ⟨hs_3, hq⟩ := bk_ck_some hq
      obtain ⟨r_2, hr_1, hq⟩ := bk_bd_some hq
      refine bk_callV (rest := []) (As := [.int x1, .int x2]) (ro := (some (.int r_2))) (Y1 := Y) (V1 := V) C hH hl.1 (c_X2_tacksFit hr_1) mc_X2_tacksFit mv_X2_tacksFit lk_RX2_38 hs_3 rfl rfl ⟨rfl, rfl⟩ ⟨by decide, by decide⟩ rfl (Nat.le_of_ble_eq_true rfl) dX2_firstHourFitting_11 ⟨by decide, by decide⟩ (fun H locs hH => ?_)
      refine lv_if_eq (tgt := 19) hx hb dX2_firstHourFitting_14 (by decide) (fun hc_4 => ?_) (fun hc_4 => ?_)
      · rw [if_pos hc_4] at hq
        refine lv_iinc (v := (x2 + 1)) (lv' := [(2, .int (x2 + 1)), (0, .ref a0), (1, .int x1)]) hx hb dX2_firstHourFitting_19 hl (k := 2) rfl rfl (by decide) rfl (fun ls hl => ?_)
        refine lv_goto (tgt := 2) hx hb dX2_firstHourFitting_22 (by decide) ?_
        exact ih _ _ _ _ _ _ _ _ (lv_sub hl [1, 2, 0] rfl) hH hq
      · rw [if_neg hc_4] at hq
        refine lv_iload_n hx hb dX2_firstHourFitting_17 rfl (lv_at hl 2 rfl) ?_
        cases hq
        exact bk_iret C hH dX2_firstHourFitting_18

set_option maxRecDepth 100000 in
set_option maxHeartbeats 4000000 in
theorem w_X2_firstHourFitting (C : bk_C G p s m args meth c cX2_firstHourFitting RX2 3 (some FieldType.int)) : ∀ (V : bk_Val) (a0 : Nat) (x1 : Int32) (H : Heap) (locs : List Loc) (ls : Array Slot) (out : Int32), lv_has ls 3 [(0, .ref a0), (1, .int x1)] → bk_H G Y V s.heap H locs → q_X2_firstHourFitting N Y V a0 x1 = some out → W p l e rm_X2_firstHourFitting s m args below meth c H locs 0 0 (MQ below (bk_Q G (some (.int out)) Y V) args s 0 0 (bk_A G)) (F0 m 0 ls []) := by
  have hx := C.1
  have hb := C.2.1
  intro V a0 x1 H locs ls out hl hH hq
  unfold q_X2_firstHourFitting at hq
  refine lv_iconst (v := 0) hx hb dX2_firstHourFitting_0 (by decide) ?_
  refine lv_istore_n (lv' := [(2, .int 0), (0, .ref a0), (1, .int x1)]) hx hb dX2_firstHourFitting_1 rfl hl (by decide) rfl (fun ls hl => ?_)
  exact w_X2_firstHourFitting_2 C _ _ _ _ _ _ _ _ _ (lv_sub hl [1, 2, 0] rfl) hH hq
set_option maxRecDepth 100000 in
theorem c_X2_firstHourFitting {l : Launch} {G : bk_G} {N : Nat} {Y : bk_Lay} {V : bk_Val} {a0 : Nat} {x1 : Int32} {out : Int32} (hq : q_X2_firstHourFitting N Y V a0 x1 = some out) : Met l yX2_firstHourFitting (bk_ws yX2_firstHourFitting cX2_firstHourFitting 3 (some FieldType.int)) rm_X2_firstHourFitting (bk_Pc G [.ref a0, .int x1] Y V) (bk_Q G (some (.int out)) Y V) 0 0 (bk_A G) :=
  bk_met (by decide) (Nat.le_of_ble_eq_true rfl) (fun p e s m args below meth c ls C hnm hH hl => w_X2_firstHourFitting C _ _ _ _ _ _ _ hl hH hq)

def rm_X0_likeliest : Room := bk_rm 0 0 0 0
set_option maxRecDepth 100000 in
set_option maxHeartbeats 4000000 in
theorem w_X0_likeliest_22 (C : bk_C G p s m args meth c cX0_likeliest RX0 3 (some FieldType.int)) (k4 : bk_Val → Nat → Int32 → Int32 → Option (Int32)) (i4 : ∀ (V : bk_Val) (a0 : Nat) (x1 : Int32) (x2 : Int32) (H : Heap) (locs : List Loc) (ls : Array Slot) (out : Int32), lv_has ls 3 [(0, .ref a0), (1, .int x1), (2, .int x2)] → bk_H G Y V s.heap H locs → k4 V a0 x1 x2 = some out → W p l e rm_X0_likeliest s m args below meth c H locs 0 0 (MQ below (bk_Q G (some (.int out)) Y V) args s 0 0 (bk_A G)) (F0 m 4 ls [])) : ∀ (V : bk_Val) (a0 : Nat) (x1 : Int32) (x2 : Int32) (H : Heap) (locs : List Loc) (ls : Array Slot) (out : Int32), lv_has ls 3 [(0, .ref a0), (1, .int x1), (2, .int x2)] → bk_H G Y V s.heap H locs → q_X0_likeliest_22 N Y k4 V a0 x1 x2 = some out → W p l e rm_X0_likeliest s m args below meth c H locs 0 0 (MQ below (bk_Q G (some (.int out)) Y V) args s 0 0 (bk_A G)) (F0 m 22 ls []) := by
  have hx := C.1
  have hb := C.2.1
  intro V a0 x1 x2 H locs ls out hl hH hq
  unfold q_X0_likeliest_22 at hq
  refine lv_iinc (v := (x2 + 1)) (lv' := [(2, .int (x2 + 1)), (0, .ref a0), (1, .int x1)]) hx hb dX0_likeliest_22 hl (k := 2) rfl rfl (by decide) rfl (fun ls hl => ?_)
  refine lv_goto (tgt := 4) hx hb dX0_likeliest_25 (by decide) ?_
  exact i4 _ _ _ _ _ _ _ _ (lv_sub hl [1, 2, 0] rfl) hH hq

set_option maxRecDepth 100000 in
set_option maxHeartbeats 4000000 in
theorem w_X0_likeliest_4 (C : bk_C G p s m args meth c cX0_likeliest RX0 3 (some FieldType.int)) : ∀ (n : Nat), ∀ (V : bk_Val) (a0 : Nat) (x1 : Int32) (x2 : Int32) (H : Heap) (locs : List Loc) (ls : Array Slot) (out : Int32), lv_has ls 3 [(0, .ref a0), (1, .int x1), (2, .int x2)] → bk_H G Y V s.heap H locs → q_X0_likeliest_4 N Y n V a0 x1 x2 = some out → W p l e rm_X0_likeliest s m args below meth c H locs 0 0 (MQ below (bk_Q G (some (.int out)) Y V) args s 0 0 (bk_A G)) (F0 m 4 ls []) := by
  have hx := C.1
  have hb := C.2.1
  intro n
  induction n with
  | zero =>
    intro V a0 x1 x2 H locs ls out hl hH hq
    exact nomatch (show (none : Option (Int32)) = some out from hq)
  | succ n ih =>
    intro V a0 x1 x2 H locs ls out hl hH hq
    unfold q_X0_likeliest_4 at hq
    refine lv_iload_n hx hb dX0_likeliest_4 rfl (lv_at hl 2 rfl) ?_
    refine lv_aload_n hx hb dX0_likeliest_5 rfl (lv_at hl 0 rfl) ?_
    obtain ⟨ha_1, hq⟩ := bk_ck_some hq
    refine bk_alen C hH (bk_arr ha_1) (by decide) dX0_likeliest_6 ?_
    refine lv_icmp_ge (tgt := 28) hx hb dX0_likeliest_7 (by decide) (fun hc_5 => ?_) (fun hc_5 => ?_)
    · rw [if_pos hc_5] at hq
      refine lv_iload_n hx hb dX0_likeliest_28 rfl (lv_at hl 1 rfl) ?_
      cases hq
      exact bk_iret C hH dX0_likeliest_29
    · rw [if_neg hc_5] at hq
      refine lv_aload_n hx hb dX0_likeliest_10 rfl (lv_at hl 0 rfl) ?_
      refine lv_iload_n hx hb dX0_likeliest_11 rfl (lv_at hl 2 rfl) ?_
      obtain ⟨hi_2, hq⟩ := bk_ck_some hq
      refine bk_lald C hH (bk_arr ha_1) (bk_in_vp hi_2) dX0_likeliest_12 ?_
      refine lv_aload_n hx hb dX0_likeliest_13 rfl (lv_at hl 0 rfl) ?_
      refine lv_iload_n hx hb dX0_likeliest_14 rfl (lv_at hl 1 rfl) ?_
      obtain ⟨hi_3, hq⟩ := bk_ck_some hq
      refine bk_lald C hH (bk_arr ha_1) (bk_in_vp hi_3) dX0_likeliest_15 ?_
      refine W.lcmp hx hb dX0_likeliest_16 ?_
      refine lv_if_le (tgt := 22) hx hb dX0_likeliest_17 (by decide) (fun hc_4 => ?_) (fun hc_4 => ?_)
      · rw [if_pos hc_4] at hq
        exact w_X0_likeliest_22 C _ ih _ _ _ _ _ _ _ _ (lv_sub hl [0, 1, 2] rfl) hH hq
      · rw [if_neg hc_4] at hq
        refine lv_iload_n hx hb dX0_likeliest_20 rfl (lv_at hl 2 rfl) ?_
        refine lv_istore_n (lv' := [(1, .int x2), (0, .ref a0), (2, .int x2)]) hx hb dX0_likeliest_21 rfl hl (by decide) rfl (fun ls hl => ?_)
        exact w_X0_likeliest_22 C _ ih _ _ _ _ _ _ _ _ (lv_sub hl [1, 0, 2] rfl) hH hq

set_option maxRecDepth 100000 in
set_option maxHeartbeats 4000000 in
theorem w_X0_likeliest (C : bk_C G p s m args meth c cX0_likeliest RX0 3 (some FieldType.int)) : ∀ (V : bk_Val) (a0 : Nat) (H : Heap) (locs : List Loc) (ls : Array Slot) (out : Int32), lv_has ls 3 [(0, .ref a0)] → bk_H G Y V s.heap H locs → q_X0_likeliest N Y V a0 = some out → W p l e rm_X0_likeliest s m args below meth c H locs 0 0 (MQ below (bk_Q G (some (.int out)) Y V) args s 0 0 (bk_A G)) (F0 m 0 ls []) := by
  have hx := C.1
  have hb := C.2.1
  intro V a0 H locs ls out hl hH hq
  unfold q_X0_likeliest at hq
  refine lv_iconst (v := 0) hx hb dX0_likeliest_0 (by decide) ?_
  refine lv_istore_n (lv' := [(1, .int 0), (0, .ref a0)]) hx hb dX0_likeliest_1 rfl hl (by decide) rfl (fun ls hl => ?_)
  refine lv_iconst (v := 1) hx hb dX0_likeliest_2 (by decide) ?_
  refine lv_istore_n (lv' := [(2, .int 1), (1, .int 0), (0, .ref a0)]) hx hb dX0_likeliest_3 rfl hl (by decide) rfl (fun ls hl => ?_)
  exact w_X0_likeliest_4 C _ _ _ _ _ _ _ _ _ (lv_sub hl [2, 1, 0] rfl) hH hq
set_option maxRecDepth 100000 in
theorem c_X0_likeliest {l : Launch} {G : bk_G} {N : Nat} {Y : bk_Lay} {V : bk_Val} {a0 : Nat} {out : Int32} (hq : q_X0_likeliest N Y V a0 = some out) : Met l yX0_likeliest (bk_ws yX0_likeliest cX0_likeliest 3 (some FieldType.int)) rm_X0_likeliest (bk_Pc G [.ref a0] Y V) (bk_Q G (some (.int out)) Y V) 0 0 (bk_A G) :=
  bk_met (by decide) (Nat.le_of_ble_eq_true rfl) (fun p e s m args below meth c ls C hnm hH hl => w_X0_likeliest C _ _ _ _ _ _ hl hH hq)

def rm_X7_init : Room := bk_rm 1 1 700 24
set_option maxRecDepth 100000 in
set_option maxHeartbeats 4000000 in
theorem w_X7_init (C : bk_C G p s m args meth c cX7_init RX7 1 (none : Option FieldType)) (hnm : meth.name = "<init>") : ∀ (Y : bk_Lay) (V : bk_Val) (a0 : Nat) (H : Heap) (locs : List Loc) (ls : Array Slot) (out : bk_Lay × bk_Val), lv_has ls 1 [(0, .ref a0)] → bk_H G Y V s.heap H locs → q_X7_init N Y V a0 = some out → W p l e rm_X7_init s m args below meth c H locs 0 0 (MQ below (bk_Q G none out.1 out.2) args s 1 700 (bk_A G)) (F0 m 0 ls []) := by
  have hx := C.1
  have hb := C.2.1
  intro Y V a0 H locs ls out hl hH hq
  unfold q_X7_init at hq
  refine lv_aload_n hx hb dX7_init_0 rfl (lv_at hl 0 rfl) ?_
  refine bk_obin C hl.1 oi_RX7 oj ok_obj dX7_init_1 (by decide) (by decide) ?_
  refine lv_aload_n hx hb dX7_init_4 rfl (lv_at hl 0 rfl) ?_
  refine lv_sipush (v := 700) hx hb dX7_init_5 (by decide) ?_
  refine bk_newa (K := 700) C hH (Or.inr (Or.inr (Or.inl ⟨rfl, rfl⟩))) ac_4 (by decide) (by decide) (by decide) (by decide) (by decide) dX7_init_8 (fun Y_2 V_3 H e_4 e_5 hH => ?_)
  have hq := bk_let_eq e_4 hq
  have hq := bk_let_eq e_5 hq
  obtain ⟨b_1, e_6⟩ : ∃ z, z = bk_sz Y := ⟨_, rfl⟩
  have hq := bk_let_eq e_6 hq
  rw [← e_6]
  refine W.widen (k := 1) (n := 700) (by decide) (by decide) ?_
  obtain ⟨hs_7, hq⟩ := bk_ck_some hq
  refine bk_putr C hH fp_RX7_9 (fun _ => hnm) hs_7 rfl rfl rfl dX7_init_10 (fun Y_8 H locs e_9 hH => ?_)
  have hq := bk_let_eq e_9 hq
  cases hq
  exact bk_vret C hH dX7_init_13
set_option maxRecDepth 100000 in
theorem c_X7_init {l : Launch} {G : bk_G} {N : Nat} {Y : bk_Lay} {V : bk_Val} {a0 : Nat} {out : bk_Lay × bk_Val} (hq : q_X7_init N Y V a0 = some out) : Met l yX7_init (bk_ws yX7_init cX7_init 1 (none : Option FieldType)) rm_X7_init (bk_Pc G [.ref a0] Y V) (bk_Q G none out.1 out.2) 1 700 (bk_A G) :=
  bk_met (by decide) (Nat.le_of_ble_eq_true rfl) (fun p e s m args below meth c ls C hnm hH hl => w_X7_init C hnm _ _ _ _ _ _ _ hl hH hq)

def rm_X3_init : Room := bk_rm 1 4 1621 24
set_option maxRecDepth 100000 in
set_option maxHeartbeats 4000000 in
theorem w_X3_init (C : bk_C G p s m args meth c cX3_init RX3 1 (none : Option FieldType)) (hnm : meth.name = "<init>") : ∀ (Y : bk_Lay) (V : bk_Val) (a0 : Nat) (H : Heap) (locs : List Loc) (ls : Array Slot) (out : bk_Lay × bk_Val), lv_has ls 1 [(0, .ref a0)] → bk_H G Y V s.heap H locs → q_X3_init N Y V a0 = some out → W p l e rm_X3_init s m args below meth c H locs 0 0 (MQ below (bk_Q G none out.1 out.2) args s 4 1621 (bk_A G)) (F0 m 0 ls []) := by
  have hx := C.1
  have hb := C.2.1
  intro Y V a0 H locs ls out hl hH hq
  unfold q_X3_init at hq
  refine lv_aload_n hx hb dX3_init_0 rfl (lv_at hl 0 rfl) ?_
  refine bk_obin C hl.1 oi_RX3 oj ok_obj dX3_init_1 (by decide) (by decide) ?_
  refine lv_aload_n hx hb dX3_init_4 rfl (lv_at hl 0 rfl) ?_
  refine lv_sipush (v := 336) hx hb dX3_init_5 (by decide) ?_
  refine bk_newa (K := 336) C hH (Or.inr (Or.inl ⟨rfl, rfl⟩)) ac_3 (by decide) (by decide) (by decide) (by decide) (by decide) dX3_init_8 (fun Y_2 V_3 H e_4 e_5 hH => ?_)
  have hq := bk_let_eq e_4 hq
  have hq := bk_let_eq e_5 hq
  obtain ⟨b_1, e_6⟩ : ∃ z, z = bk_sz Y := ⟨_, rfl⟩
  have hq := bk_let_eq e_6 hq
  rw [← e_6]
  refine W.widen (k := 1) (n := 336) (by decide) (by decide) ?_
  obtain ⟨hs_7, hq⟩ := bk_ck_some hq
  refine bk_putr C hH fp_RX3_9 (fun _ => hnm) hs_7 rfl rfl rfl dX3_init_10 (fun Y_8 H locs e_9 hH => ?_)
  have hq := bk_let_eq e_9 hq
  refine lv_aload_n hx hb dX3_init_13 rfl (lv_at hl 0 rfl) ?_
  refine lv_bipush (v := 84) hx hb dX3_init_14 (by decide) ?_
  refine bk_newa (K := 84) C hH (Or.inr (Or.inl ⟨rfl, rfl⟩)) ac_3 (by decide) (by decide) (by decide) (by decide) (by decide) dX3_init_16 (fun Y_11 V_12 H e_13 e_14 hH => ?_)
  have hq := bk_let_eq e_13 hq
  have hq := bk_let_eq e_14 hq
  obtain ⟨b_10, e_15⟩ : ∃ z, z = bk_sz Y_8 := ⟨_, rfl⟩
  have hq := bk_let_eq e_15 hq
  rw [← e_15]
  refine W.widen (k := 2) (n := 420) (by decide) (by decide) ?_
  obtain ⟨hs_16, hq⟩ := bk_ck_some hq
  refine bk_putr C hH fp_RX3_15 (fun _ => hnm) hs_16 rfl rfl rfl dX3_init_18 (fun Y_17 H locs e_18 hH => ?_)
  have hq := bk_let_eq e_18 hq
  refine lv_aload_n hx hb dX3_init_21 rfl (lv_at hl 0 rfl) ?_
  refine lv_sipush (v := 600) hx hb dX3_init_22 (by decide) ?_
  refine bk_newa (K := 600) C hH (Or.inl ⟨rfl, rfl⟩) ac_2 (by decide) (by decide) (by decide) (by decide) (by decide) dX3_init_25 (fun Y_20 V_21 H e_22 e_23 hH => ?_)
  have hq := bk_let_eq e_22 hq
  have hq := bk_let_eq e_23 hq
  obtain ⟨b_19, e_24⟩ : ∃ z, z = bk_sz Y_17 := ⟨_, rfl⟩
  have hq := bk_let_eq e_24 hq
  rw [← e_24]
  refine W.widen (k := 3) (n := 1020) (by decide) (by decide) ?_
  obtain ⟨hs_25, hq⟩ := bk_ck_some hq
  refine bk_putr C hH fp_RX3_18 (fun _ => hnm) hs_25 rfl rfl rfl dX3_init_27 (fun Y_26 H locs e_27 hH => ?_)
  have hq := bk_let_eq e_27 hq
  refine lv_aload_n hx hb dX3_init_30 rfl (lv_at hl 0 rfl) ?_
  refine lv_sipush (v := 601) hx hb dX3_init_31 (by decide) ?_
  refine bk_newa (K := 601) C hH (Or.inr (Or.inl ⟨rfl, rfl⟩)) ac_3 (by decide) (by decide) (by decide) (by decide) (by decide) dX3_init_34 (fun Y_29 V_30 H e_31 e_32 hH => ?_)
  have hq := bk_let_eq e_31 hq
  have hq := bk_let_eq e_32 hq
  obtain ⟨b_28, e_33⟩ : ∃ z, z = bk_sz Y_26 := ⟨_, rfl⟩
  have hq := bk_let_eq e_33 hq
  rw [← e_33]
  refine W.widen (k := 4) (n := 1621) (by decide) (by decide) ?_
  obtain ⟨hs_34, hq⟩ := bk_ck_some hq
  refine bk_putr C hH fp_RX3_22 (fun _ => hnm) hs_34 rfl rfl rfl dX3_init_36 (fun Y_35 H locs e_36 hH => ?_)
  have hq := bk_let_eq e_36 hq
  cases hq
  exact bk_vret C hH dX3_init_39
set_option maxRecDepth 100000 in
theorem c_X3_init {l : Launch} {G : bk_G} {N : Nat} {Y : bk_Lay} {V : bk_Val} {a0 : Nat} {out : bk_Lay × bk_Val} (hq : q_X3_init N Y V a0 = some out) : Met l yX3_init (bk_ws yX3_init cX3_init 1 (none : Option FieldType)) rm_X3_init (bk_Pc G [.ref a0] Y V) (bk_Q G none out.1 out.2) 4 1621 (bk_A G) :=
  bk_met (by decide) (Nat.le_of_ble_eq_true rfl) (fun p e s m args below meth c ls C hnm hH hl => w_X3_init C hnm _ _ _ _ _ _ _ hl hH hq)

def rm_X10_init : Room := bk_rm 1 2 12 24
set_option maxRecDepth 100000 in
set_option maxHeartbeats 4000000 in
theorem w_X10_init (C : bk_C G p s m args meth c cX10_init RX10 1 (none : Option FieldType)) (hnm : meth.name = "<init>") : ∀ (Y : bk_Lay) (V : bk_Val) (a0 : Nat) (H : Heap) (locs : List Loc) (ls : Array Slot) (out : bk_Lay × bk_Val), lv_has ls 1 [(0, .ref a0)] → bk_H G Y V s.heap H locs → q_X10_init N Y V a0 = some out → W p l e rm_X10_init s m args below meth c H locs 0 0 (MQ below (bk_Q G none out.1 out.2) args s 2 12 (bk_A G)) (F0 m 0 ls []) := by
  have hx := C.1
  have hb := C.2.1
  intro Y V a0 H locs ls out hl hH hq
  unfold q_X10_init at hq
  refine lv_aload_n hx hb dX10_init_0 rfl (lv_at hl 0 rfl) ?_
  refine bk_obin C hl.1 oi_RX10 oj ok_obj dX10_init_1 (by decide) (by decide) ?_
  refine lv_aload_n hx hb dX10_init_4 rfl (lv_at hl 0 rfl) ?_
  refine lv_bipush (v := 6) hx hb dX10_init_5 (by decide) ?_
  refine bk_newa (K := 6) C hH (Or.inl ⟨rfl, rfl⟩) ac_2 (by decide) (by decide) (by decide) (by decide) (by decide) dX10_init_7 (fun Y_2 V_3 H e_4 e_5 hH => ?_)
  have hq := bk_let_eq e_4 hq
  have hq := bk_let_eq e_5 hq
  obtain ⟨b_1, e_6⟩ : ∃ z, z = bk_sz Y := ⟨_, rfl⟩
  have hq := bk_let_eq e_6 hq
  rw [← e_6]
  refine W.widen (k := 1) (n := 6) (by decide) (by decide) ?_
  obtain ⟨hs_7, hq⟩ := bk_ck_some hq
  refine bk_putr C hH fp_RX10_9 (fun _ => hnm) hs_7 rfl rfl rfl dX10_init_9 (fun Y_8 H locs e_9 hH => ?_)
  have hq := bk_let_eq e_9 hq
  refine lv_aload_n hx hb dX10_init_12 rfl (lv_at hl 0 rfl) ?_
  refine lv_bipush (v := 6) hx hb dX10_init_13 (by decide) ?_
  refine bk_newa (K := 6) C hH (Or.inl ⟨rfl, rfl⟩) ac_2 (by decide) (by decide) (by decide) (by decide) (by decide) dX10_init_15 (fun Y_11 V_12 H e_13 e_14 hH => ?_)
  have hq := bk_let_eq e_13 hq
  have hq := bk_let_eq e_14 hq
  obtain ⟨b_10, e_15⟩ : ∃ z, z = bk_sz Y_8 := ⟨_, rfl⟩
  have hq := bk_let_eq e_15 hq
  rw [← e_15]
  refine W.widen (k := 2) (n := 12) (by decide) (by decide) ?_
  obtain ⟨hs_16, hq⟩ := bk_ck_some hq
  refine bk_putr C hH fp_RX10_15 (fun _ => hnm) hs_16 rfl rfl rfl dX10_init_17 (fun Y_17 H locs e_18 hH => ?_)
  have hq := bk_let_eq e_18 hq
  cases hq
  exact bk_vret C hH dX10_init_20
set_option maxRecDepth 100000 in
theorem c_X10_init {l : Launch} {G : bk_G} {N : Nat} {Y : bk_Lay} {V : bk_Val} {a0 : Nat} {out : bk_Lay × bk_Val} (hq : q_X10_init N Y V a0 = some out) : Met l yX10_init (bk_ws yX10_init cX10_init 1 (none : Option FieldType)) rm_X10_init (bk_Pc G [.ref a0] Y V) (bk_Q G none out.1 out.2) 2 12 (bk_A G) :=
  bk_met (by decide) (Nat.le_of_ble_eq_true rfl) (fun p e s m args below meth c ls C hnm hH hl => w_X10_init C hnm _ _ _ _ _ _ _ hl hH hq)

def rm_X2_init : Room := bk_rm 1 4 32 24
set_option maxRecDepth 100000 in
set_option maxHeartbeats 4000000 in
theorem w_X2_init (C : bk_C G p s m args meth c cX2_init RX2 1 (none : Option FieldType)) (hnm : meth.name = "<init>") : ∀ (Y : bk_Lay) (V : bk_Val) (a0 : Nat) (H : Heap) (locs : List Loc) (ls : Array Slot) (out : bk_Lay × bk_Val), lv_has ls 1 [(0, .ref a0)] → bk_H G Y V s.heap H locs → q_X2_init N Y V a0 = some out → W p l e rm_X2_init s m args below meth c H locs 0 0 (MQ below (bk_Q G none out.1 out.2) args s 4 32 (bk_A G)) (F0 m 0 ls []) := by
  have hx := C.1
  have hb := C.2.1
  intro Y V a0 H locs ls out hl hH hq
  unfold q_X2_init at hq
  refine lv_aload_n hx hb dX2_init_0 rfl (lv_at hl 0 rfl) ?_
  refine bk_obin C hl.1 oi_RX2 oj ok_obj dX2_init_1 (by decide) (by decide) ?_
  refine lv_aload_n hx hb dX2_init_4 rfl (lv_at hl 0 rfl) ?_
  refine lv_bipush (v := 8) hx hb dX2_init_5 (by decide) ?_
  refine bk_newa (K := 8) C hH (Or.inl ⟨rfl, rfl⟩) ac_2 (by decide) (by decide) (by decide) (by decide) (by decide) dX2_init_7 (fun Y_2 V_3 H e_4 e_5 hH => ?_)
  have hq := bk_let_eq e_4 hq
  have hq := bk_let_eq e_5 hq
  obtain ⟨b_1, e_6⟩ : ∃ z, z = bk_sz Y := ⟨_, rfl⟩
  have hq := bk_let_eq e_6 hq
  rw [← e_6]
  refine W.widen (k := 1) (n := 8) (by decide) (by decide) ?_
  obtain ⟨hs_7, hq⟩ := bk_ck_some hq
  refine bk_putr C hH fp_RX2_9 (fun _ => hnm) hs_7 rfl rfl rfl dX2_init_9 (fun Y_8 H locs e_9 hH => ?_)
  have hq := bk_let_eq e_9 hq
  refine lv_aload_n hx hb dX2_init_12 rfl (lv_at hl 0 rfl) ?_
  refine lv_bipush (v := 8) hx hb dX2_init_13 (by decide) ?_
  refine bk_newa (K := 8) C hH (Or.inl ⟨rfl, rfl⟩) ac_2 (by decide) (by decide) (by decide) (by decide) (by decide) dX2_init_15 (fun Y_11 V_12 H e_13 e_14 hH => ?_)
  have hq := bk_let_eq e_13 hq
  have hq := bk_let_eq e_14 hq
  obtain ⟨b_10, e_15⟩ : ∃ z, z = bk_sz Y_8 := ⟨_, rfl⟩
  have hq := bk_let_eq e_15 hq
  rw [← e_15]
  refine W.widen (k := 2) (n := 16) (by decide) (by decide) ?_
  obtain ⟨hs_16, hq⟩ := bk_ck_some hq
  refine bk_putr C hH fp_RX2_15 (fun _ => hnm) hs_16 rfl rfl rfl dX2_init_17 (fun Y_17 H locs e_18 hH => ?_)
  have hq := bk_let_eq e_18 hq
  refine lv_aload_n hx hb dX2_init_20 rfl (lv_at hl 0 rfl) ?_
  refine lv_bipush (v := 8) hx hb dX2_init_21 (by decide) ?_
  refine bk_newa (K := 8) C hH (Or.inl ⟨rfl, rfl⟩) ac_2 (by decide) (by decide) (by decide) (by decide) (by decide) dX2_init_23 (fun Y_20 V_21 H e_22 e_23 hH => ?_)
  have hq := bk_let_eq e_22 hq
  have hq := bk_let_eq e_23 hq
  obtain ⟨b_19, e_24⟩ : ∃ z, z = bk_sz Y_17 := ⟨_, rfl⟩
  have hq := bk_let_eq e_24 hq
  rw [← e_24]
  refine W.widen (k := 3) (n := 24) (by decide) (by decide) ?_
  obtain ⟨hs_25, hq⟩ := bk_ck_some hq
  refine bk_putr C hH fp_RX2_18 (fun _ => hnm) hs_25 rfl rfl rfl dX2_init_25 (fun Y_26 H locs e_27 hH => ?_)
  have hq := bk_let_eq e_27 hq
  refine lv_aload_n hx hb dX2_init_28 rfl (lv_at hl 0 rfl) ?_
  refine lv_bipush (v := 8) hx hb dX2_init_29 (by decide) ?_
  refine bk_newa (K := 8) C hH (Or.inr (Or.inr (Or.inr ⟨rfl, rfl⟩))) ac_5 (by decide) (by decide) (by decide) (by decide) (by decide) dX2_init_31 (fun Y_29 V_30 H e_31 e_32 hH => ?_)
  have hq := bk_let_eq e_31 hq
  have hq := bk_let_eq e_32 hq
  obtain ⟨b_28, e_33⟩ : ∃ z, z = bk_sz Y_26 := ⟨_, rfl⟩
  have hq := bk_let_eq e_33 hq
  rw [← e_33]
  refine W.widen (k := 4) (n := 32) (by decide) (by decide) ?_
  obtain ⟨hs_34, hq⟩ := bk_ck_some hq
  refine bk_putr C hH fp_RX2_21 (fun _ => hnm) hs_34 rfl rfl rfl dX2_init_33 (fun Y_35 H locs e_36 hH => ?_)
  have hq := bk_let_eq e_36 hq
  cases hq
  exact bk_vret C hH dX2_init_36
set_option maxRecDepth 100000 in
theorem c_X2_init {l : Launch} {G : bk_G} {N : Nat} {Y : bk_Lay} {V : bk_Val} {a0 : Nat} {out : bk_Lay × bk_Val} (hq : q_X2_init N Y V a0 = some out) : Met l yX2_init (bk_ws yX2_init cX2_init 1 (none : Option FieldType)) rm_X2_init (bk_Pc G [.ref a0] Y V) (bk_Q G none out.1 out.2) 4 32 (bk_A G) :=
  bk_met (by decide) (Nat.le_of_ble_eq_true rfl) (fun p e s m args below meth c ls C hnm hH hl => w_X2_init C hnm _ _ _ _ _ _ _ hl hH hq)

def rm_X4_init : Room := bk_rm 1 2 740 24
set_option maxRecDepth 100000 in
set_option maxHeartbeats 4000000 in
theorem w_X4_init (C : bk_C G p s m args meth c cX4_init RX4 1 (none : Option FieldType)) (hnm : meth.name = "<init>") : ∀ (Y : bk_Lay) (V : bk_Val) (a0 : Nat) (H : Heap) (locs : List Loc) (ls : Array Slot) (out : bk_Lay × bk_Val), lv_has ls 1 [(0, .ref a0)] → bk_H G Y V s.heap H locs → q_X4_init N Y V a0 = some out → W p l e rm_X4_init s m args below meth c H locs 0 0 (MQ below (bk_Q G none out.1 out.2) args s 2 740 (bk_A G)) (F0 m 0 ls []) := by
  have hx := C.1
  have hb := C.2.1
  intro Y V a0 H locs ls out hl hH hq
  unfold q_X4_init at hq
  refine lv_aload_n hx hb dX4_init_0 rfl (lv_at hl 0 rfl) ?_
  refine bk_obin C hl.1 oi_RX4 oj ok_obj dX4_init_1 (by decide) (by decide) ?_
  refine lv_aload_n hx hb dX4_init_4 rfl (lv_at hl 0 rfl) ?_
  refine lv_sipush (v := 700) hx hb dX4_init_5 (by decide) ?_
  refine bk_newa (K := 700) C hH (Or.inl ⟨rfl, rfl⟩) ac_2 (by decide) (by decide) (by decide) (by decide) (by decide) dX4_init_8 (fun Y_2 V_3 H e_4 e_5 hH => ?_)
  have hq := bk_let_eq e_4 hq
  have hq := bk_let_eq e_5 hq
  obtain ⟨b_1, e_6⟩ : ∃ z, z = bk_sz Y := ⟨_, rfl⟩
  have hq := bk_let_eq e_6 hq
  rw [← e_6]
  refine W.widen (k := 1) (n := 700) (by decide) (by decide) ?_
  obtain ⟨hs_7, hq⟩ := bk_ck_some hq
  refine bk_putr C hH fp_RX4_9 (fun _ => hnm) hs_7 rfl rfl rfl dX4_init_10 (fun Y_8 H locs e_9 hH => ?_)
  have hq := bk_let_eq e_9 hq
  refine lv_aload_n hx hb dX4_init_13 rfl (lv_at hl 0 rfl) ?_
  refine lv_bipush (v := 40) hx hb dX4_init_14 (by decide) ?_
  refine bk_newa (K := 40) C hH (Or.inl ⟨rfl, rfl⟩) ac_2 (by decide) (by decide) (by decide) (by decide) (by decide) dX4_init_16 (fun Y_11 V_12 H e_13 e_14 hH => ?_)
  have hq := bk_let_eq e_13 hq
  have hq := bk_let_eq e_14 hq
  obtain ⟨b_10, e_15⟩ : ∃ z, z = bk_sz Y_8 := ⟨_, rfl⟩
  have hq := bk_let_eq e_15 hq
  rw [← e_15]
  refine W.widen (k := 2) (n := 740) (by decide) (by decide) ?_
  obtain ⟨hs_16, hq⟩ := bk_ck_some hq
  refine bk_putr C hH fp_RX4_15 (fun _ => hnm) hs_16 rfl rfl rfl dX4_init_18 (fun Y_17 H locs e_18 hH => ?_)
  have hq := bk_let_eq e_18 hq
  cases hq
  exact bk_vret C hH dX4_init_21
set_option maxRecDepth 100000 in
theorem c_X4_init {l : Launch} {G : bk_G} {N : Nat} {Y : bk_Lay} {V : bk_Val} {a0 : Nat} {out : bk_Lay × bk_Val} (hq : q_X4_init N Y V a0 = some out) : Met l yX4_init (bk_ws yX4_init cX4_init 1 (none : Option FieldType)) rm_X4_init (bk_Pc G [.ref a0] Y V) (bk_Q G none out.1 out.2) 2 740 (bk_A G) :=
  bk_met (by decide) (Nat.le_of_ble_eq_true rfl) (fun p e s m args below meth c ls C hnm hH hl => w_X4_init C hnm _ _ _ _ _ _ _ hl hH hq)

def rm_X4_clear : Room := bk_rm 0 0 0 0
set_option maxRecDepth 100000 in
set_option maxHeartbeats 4000000 in
theorem w_X4_clear (C : bk_C G p s m args meth c cX4_clear RX4 1 (none : Option FieldType)) : ∀ (V : bk_Val) (a0 : Nat) (H : Heap) (locs : List Loc) (ls : Array Slot) (out : bk_Val), lv_has ls 1 [(0, .ref a0)] → bk_H G Y V s.heap H locs → q_X4_clear N Y V a0 = some out → W p l e rm_X4_clear s m args below meth c H locs 0 0 (MQ below (bk_Q G none Y out) args s 0 0 (bk_A G)) (F0 m 0 ls []) := by
  have hx := C.1
  have hb := C.2.1
  intro V a0 H locs ls out hl hH hq
  unfold q_X4_clear at hq
  refine lv_aload_n hx hb dX4_clear_0 rfl (lv_at hl 0 rfl) ?_
  refine lv_iconst (v := 0) hx hb dX4_clear_1 (by decide) ?_
  obtain ⟨hs_1, hq⟩ := bk_ck_some hq
  refine bk_puti C hH fp_RX4_18 (fun h => by cases h) hs_1 rfl dX4_clear_2 (fun V_2 H locs e_3 hH => ?_)
  have hq := bk_let_eq e_3 hq
  cases hq
  exact bk_vret C hH dX4_clear_5
set_option maxRecDepth 100000 in
theorem c_X4_clear {l : Launch} {G : bk_G} {N : Nat} {Y : bk_Lay} {V : bk_Val} {a0 : Nat} {out : bk_Val} (hq : q_X4_clear N Y V a0 = some out) : Met l yX4_clear (bk_ws yX4_clear cX4_clear 1 (none : Option FieldType)) rm_X4_clear (bk_Pc G [.ref a0] Y V) (bk_Q G none Y out) 0 0 (bk_A G) :=
  bk_met (by decide) (Nat.le_of_ble_eq_true rfl) (fun p e s m args below meth c ls C hnm hH hl => w_X4_clear C _ _ _ _ _ _ hl hH hq)

def rm_X5_clear : Room := bk_rm 1 0 0 20
set_option maxRecDepth 100000 in
set_option maxHeartbeats 4000000 in
theorem w_X5_clear (C : bk_C G p s m args meth c cX5_clear RX5 1 (none : Option FieldType)) : ∀ (V : bk_Val) (a0 : Nat) (H : Heap) (locs : List Loc) (ls : Array Slot) (out : bk_Val), lv_has ls 1 [(0, .ref a0)] → bk_H G Y V s.heap H locs → q_X5_clear N Y V a0 = some out → W p l e rm_X5_clear s m args below meth c H locs 0 0 (MQ below (bk_Q G none Y out) args s 0 0 (bk_A G)) (F0 m 0 ls []) := by
  have hx := C.1
  have hb := C.2.1
  intro V a0 H locs ls out hl hH hq
  unfold q_X5_clear at hq
  refine lv_aload_n hx hb dX5_clear_0 rfl (lv_at hl 0 rfl) ?_
  obtain ⟨hs_1, hq⟩ := bk_ck_some hq
  obtain ⟨b_2, hr_3, hq⟩ := bk_bd_some hq
  refine bk_getr C hH fl_RX5_9 hs_1 rfl hr_3 dX5_clear_1 ?_
  refine lv_iconst (v := 0) hx hb dX5_clear_4 (by decide) ?_
  refine lv_bipush (v := 48) hx hb dX5_clear_5 (by decide) ?_
  obtain ⟨ha_4, hq⟩ := bk_ck_some hq
  obtain ⟨hi_5, hq⟩ := bk_ck_some hq
  refine bk_iast C hH (bk_arr ha_4) (bk_in_vp hi_5) dX5_clear_7 (fun V_6 H locs e_7 hH => ?_)
  have hq := bk_let_eq e_7 hq
  refine lv_aload_n hx hb dX5_clear_8 rfl (lv_at hl 0 rfl) ?_
  refine bk_getr C hH fl_RX5_9 hs_1 rfl hr_3 dX5_clear_9 ?_
  refine lv_iconst (v := 1) hx hb dX5_clear_12 (by decide) ?_
  refine lv_iconst (v := 3) hx hb dX5_clear_13 (by decide) ?_
  obtain ⟨hi_8, hq⟩ := bk_ck_some hq
  refine bk_iast C hH (bk_arr ha_4) (bk_in_vp hi_8) dX5_clear_14 (fun V_9 H locs e_10 hH => ?_)
  have hq := bk_let_eq e_10 hq
  refine lv_aload_n hx hb dX5_clear_15 rfl (lv_at hl 0 rfl) ?_
  refine bk_getr C hH fl_RX5_9 hs_1 rfl hr_3 dX5_clear_16 ?_
  refine lv_iconst (v := 2) hx hb dX5_clear_19 (by decide) ?_
  refine lv_bipush (v := 60) hx hb dX5_clear_20 (by decide) ?_
  obtain ⟨hi_11, hq⟩ := bk_ck_some hq
  refine bk_iast C hH (bk_arr ha_4) (bk_in_vp hi_11) dX5_clear_22 (fun V_12 H locs e_13 hH => ?_)
  have hq := bk_let_eq e_13 hq
  refine lv_aload_n hx hb dX5_clear_23 rfl (lv_at hl 0 rfl) ?_
  refine bk_getr C hH fl_RX5_9 hs_1 rfl hr_3 dX5_clear_24 ?_
  refine lv_iconst (v := 3) hx hb dX5_clear_27 (by decide) ?_
  refine lv_bipush (v := 90) hx hb dX5_clear_28 (by decide) ?_
  obtain ⟨hi_14, hq⟩ := bk_ck_some hq
  refine bk_iast C hH (bk_arr ha_4) (bk_in_vp hi_14) dX5_clear_30 (fun V_15 H locs e_16 hH => ?_)
  have hq := bk_let_eq e_16 hq
  refine lv_aload_n hx hb dX5_clear_31 rfl (lv_at hl 0 rfl) ?_
  refine bk_getr C hH fl_RX5_9 hs_1 rfl hr_3 dX5_clear_32 ?_
  refine lv_iconst (v := 4) hx hb dX5_clear_35 (by decide) ?_
  refine lv_bipush (v := 60) hx hb dX5_clear_36 (by decide) ?_
  obtain ⟨hi_17, hq⟩ := bk_ck_some hq
  refine bk_iast C hH (bk_arr ha_4) (bk_in_vp hi_17) dX5_clear_38 (fun V_18 H locs e_19 hH => ?_)
  have hq := bk_let_eq e_19 hq
  refine lv_aload_n hx hb dX5_clear_39 rfl (lv_at hl 0 rfl) ?_
  refine bk_getr C hH fl_RX5_9 hs_1 rfl hr_3 dX5_clear_40 ?_
  refine lv_iconst (v := 5) hx hb dX5_clear_43 (by decide) ?_
  refine lv_iconst (v := 0) hx hb dX5_clear_44 (by decide) ?_
  obtain ⟨hi_20, hq⟩ := bk_ck_some hq
  refine bk_iast C hH (bk_arr ha_4) (bk_in_vp hi_20) dX5_clear_45 (fun V_21 H locs e_22 hH => ?_)
  have hq := bk_let_eq e_22 hq
  refine lv_aload_n hx hb dX5_clear_46 rfl (lv_at hl 0 rfl) ?_
  refine bk_getr C hH fl_RX5_9 hs_1 rfl hr_3 dX5_clear_47 ?_
  refine lv_bipush (v := 6) hx hb dX5_clear_50 (by decide) ?_
  refine lv_bipush (v := 30) hx hb dX5_clear_52 (by decide) ?_
  obtain ⟨hi_23, hq⟩ := bk_ck_some hq
  refine bk_iast C hH (bk_arr ha_4) (bk_in_vp hi_23) dX5_clear_54 (fun V_24 H locs e_25 hH => ?_)
  have hq := bk_let_eq e_25 hq
  refine lv_aload_n hx hb dX5_clear_55 rfl (lv_at hl 0 rfl) ?_
  refine bk_getr C hH fl_RX5_9 hs_1 rfl hr_3 dX5_clear_56 ?_
  refine lv_bipush (v := 7) hx hb dX5_clear_59 (by decide) ?_
  refine lv_bipush (v := 50) hx hb dX5_clear_61 (by decide) ?_
  obtain ⟨hi_26, hq⟩ := bk_ck_some hq
  refine bk_iast C hH (bk_arr ha_4) (bk_in_vp hi_26) dX5_clear_63 (fun V_27 H locs e_28 hH => ?_)
  have hq := bk_let_eq e_28 hq
  refine lv_aload_n hx hb dX5_clear_64 rfl (lv_at hl 0 rfl) ?_
  obtain ⟨b_29, hr_30, hq⟩ := bk_bd_some hq
  refine bk_getr C hH fl_RX5_15 hs_1 rfl hr_30 dX5_clear_65 ?_
  refine lv_iconst (v := 0) hx hb dX5_clear_68 (by decide) ?_
  refine lv_iconst (v := 5) hx hb dX5_clear_69 (by decide) ?_
  obtain ⟨ha_31, hq⟩ := bk_ck_some hq
  obtain ⟨hi_32, hq⟩ := bk_ck_some hq
  refine bk_iast C hH (bk_arr ha_31) (bk_in_vp hi_32) dX5_clear_70 (fun V_33 H locs e_34 hH => ?_)
  have hq := bk_let_eq e_34 hq
  refine lv_aload_n hx hb dX5_clear_71 rfl (lv_at hl 0 rfl) ?_
  refine bk_getr C hH fl_RX5_15 hs_1 rfl hr_30 dX5_clear_72 ?_
  refine lv_iconst (v := 1) hx hb dX5_clear_75 (by decide) ?_
  refine lv_iconst (v := 2) hx hb dX5_clear_76 (by decide) ?_
  obtain ⟨hi_35, hq⟩ := bk_ck_some hq
  refine bk_iast C hH (bk_arr ha_31) (bk_in_vp hi_35) dX5_clear_77 (fun V_36 H locs e_37 hH => ?_)
  have hq := bk_let_eq e_37 hq
  refine lv_aload_n hx hb dX5_clear_78 rfl (lv_at hl 0 rfl) ?_
  refine bk_getr C hH fl_RX5_15 hs_1 rfl hr_30 dX5_clear_79 ?_
  refine lv_iconst (v := 2) hx hb dX5_clear_82 (by decide) ?_
  refine lv_iconst (v := 1) hx hb dX5_clear_83 (by decide) ?_
  obtain ⟨hi_38, hq⟩ := bk_ck_some hq
  refine bk_iast C hH (bk_arr ha_31) (bk_in_vp hi_38) dX5_clear_84 (fun V_39 H locs e_40 hH => ?_)
  have hq := bk_let_eq e_40 hq
  refine lv_aload_n hx hb dX5_clear_85 rfl (lv_at hl 0 rfl) ?_
  refine bk_getr C hH fl_RX5_15 hs_1 rfl hr_30 dX5_clear_86 ?_
  refine lv_iconst (v := 3) hx hb dX5_clear_89 (by decide) ?_
  refine lv_iconst (v := 1) hx hb dX5_clear_90 (by decide) ?_
  obtain ⟨hi_41, hq⟩ := bk_ck_some hq
  refine bk_iast C hH (bk_arr ha_31) (bk_in_vp hi_41) dX5_clear_91 (fun V_42 H locs e_43 hH => ?_)
  have hq := bk_let_eq e_43 hq
  refine lv_aload_n hx hb dX5_clear_92 rfl (lv_at hl 0 rfl) ?_
  obtain ⟨b_44, hr_45, hq⟩ := bk_bd_some hq
  refine bk_getr C hH fl_RX5_21 hs_1 rfl hr_45 dX5_clear_93 ?_
  refine lv_iconst (v := 0) hx hb dX5_clear_96 (by decide) ?_
  obtain ⟨hs_46, hq⟩ := bk_ck_some hq
  refine bk_puti C hH fp_RX5_55 (fun h => by cases h) hs_46 rfl dX5_clear_97 (fun V_47 H locs e_48 hH => ?_)
  have hq := bk_let_eq e_48 hq
  refine lv_aload_n hx hb dX5_clear_100 rfl (lv_at hl 0 rfl) ?_
  obtain ⟨b_49, hr_50, hq⟩ := bk_bd_some hq
  refine bk_getr C hH fl_RX5_28 hs_1 rfl hr_50 dX5_clear_101 ?_
  refine lv_iconst (v := 0) hx hb dX5_clear_104 (by decide) ?_
  obtain ⟨hs_51, hq⟩ := bk_ck_some hq
  refine bk_puti C hH fp_RX5_59 (fun h => by cases h) hs_51 rfl dX5_clear_105 (fun V_52 H locs e_53 hH => ?_)
  have hq := bk_let_eq e_53 hq
  refine lv_aload_n hx hb dX5_clear_108 rfl (lv_at hl 0 rfl) ?_
  obtain ⟨b_54, hr_55, hq⟩ := bk_bd_some hq
  refine bk_getr C hH fl_RX5_35 hs_1 rfl hr_55 dX5_clear_109 ?_
  refine lv_iconst (v := 0) hx hb dX5_clear_112 (by decide) ?_
  obtain ⟨hs_56, hq⟩ := bk_ck_some hq
  refine bk_puti C hH fp_RX5_60 (fun h => by cases h) hs_56 rfl dX5_clear_113 (fun V_57 H locs e_58 hH => ?_)
  have hq := bk_let_eq e_58 hq
  refine lv_aload_n hx hb dX5_clear_116 rfl (lv_at hl 0 rfl) ?_
  obtain ⟨b_59, hr_60, hq⟩ := bk_bd_some hq
  refine bk_getr C hH fl_RX5_42 hs_1 rfl hr_60 dX5_clear_117 ?_
  obtain ⟨hs_63, hq⟩ := bk_ck_some hq
  obtain ⟨V_62, hr_61, hq⟩ := bk_bd_some hq
  refine bk_callV (rest := []) (As := []) (ro := none) (Y1 := Y) (V1 := V_62) C hH hl.1 (c_X4_clear hr_61) mc_X4_clear mv_X4_clear lk_RX5_61 hs_63 rfl rfl ⟨rfl, rfl⟩ ⟨by decide, by decide⟩ rfl (Nat.le_of_ble_eq_true rfl) dX5_clear_120 ⟨by decide, by decide⟩ (fun H locs hH => ?_)
  refine lv_aload_n hx hb dX5_clear_123 rfl (lv_at hl 0 rfl) ?_
  obtain ⟨b_64, hr_65, hq⟩ := bk_bd_some hq
  refine bk_getr C hH fl_RX5_46 hs_1 rfl hr_65 dX5_clear_124 ?_
  obtain ⟨hs_68, hq⟩ := bk_ck_some hq
  obtain ⟨V_67, hr_66, hq⟩ := bk_bd_some hq
  refine bk_callV (rest := []) (As := []) (ro := none) (Y1 := Y) (V1 := V_67) C hH hl.1 (c_X4_clear hr_66) mc_X4_clear mv_X4_clear lk_RX5_61 hs_68 rfl rfl ⟨rfl, rfl⟩ ⟨by decide, by decide⟩ rfl (Nat.le_of_ble_eq_true rfl) dX5_clear_127 ⟨by decide, by decide⟩ (fun H locs hH => ?_)
  cases hq
  exact bk_vret C hH dX5_clear_130
set_option maxRecDepth 100000 in
theorem c_X5_clear {l : Launch} {G : bk_G} {N : Nat} {Y : bk_Lay} {V : bk_Val} {a0 : Nat} {out : bk_Val} (hq : q_X5_clear N Y V a0 = some out) : Met l yX5_clear (bk_ws yX5_clear cX5_clear 1 (none : Option FieldType)) rm_X5_clear (bk_Pc G [.ref a0] Y V) (bk_Q G none Y out) 0 0 (bk_A G) :=
  bk_met (by decide) (Nat.le_of_ble_eq_true rfl) (fun p e s m args below meth c ls C hnm hH hl => w_X5_clear C _ _ _ _ _ _ hl hH hq)

def rm_X5_init : Room := bk_rm 2 21 1579 44
set_option maxRecDepth 100000 in
set_option maxHeartbeats 4000000 in
theorem w_X5_init (C : bk_C G p s m args meth c cX5_init RX5 1 (none : Option FieldType)) (hnm : meth.name = "<init>") : ∀ (Y : bk_Lay) (V : bk_Val) (a0 : Nat) (H : Heap) (locs : List Loc) (ls : Array Slot) (out : bk_Lay × bk_Val), lv_has ls 1 [(0, .ref a0)] → bk_H G Y V s.heap H locs → q_X5_init N Y V a0 = some out → W p l e rm_X5_init s m args below meth c H locs 0 0 (MQ below (bk_Q G none out.1 out.2) args s 21 1579 (bk_A G)) (F0 m 0 ls []) := by
  have hx := C.1
  have hb := C.2.1
  intro Y V a0 H locs ls out hl hH hq
  unfold q_X5_init at hq
  refine lv_aload_n hx hb dX5_init_0 rfl (lv_at hl 0 rfl) ?_
  refine bk_obin C hl.1 oi_RX5 oj ok_obj dX5_init_1 (by decide) (by decide) ?_
  refine lv_aload_n hx hb dX5_init_4 rfl (lv_at hl 0 rfl) ?_
  refine lv_bipush (v := 8) hx hb dX5_init_5 (by decide) ?_
  refine bk_newa (K := 8) C hH (Or.inl ⟨rfl, rfl⟩) ac_2 (by decide) (by decide) (by decide) (by decide) (by decide) dX5_init_7 (fun Y_2 V_3 H e_4 e_5 hH => ?_)
  have hq := bk_let_eq e_4 hq
  have hq := bk_let_eq e_5 hq
  obtain ⟨b_1, e_6⟩ : ∃ z, z = bk_sz Y := ⟨_, rfl⟩
  have hq := bk_let_eq e_6 hq
  rw [← e_6]
  refine W.widen (k := 1) (n := 8) (by decide) (by decide) ?_
  obtain ⟨hs_7, hq⟩ := bk_ck_some hq
  refine bk_putr C hH fp_RX5_9 (fun _ => hnm) hs_7 rfl rfl rfl dX5_init_9 (fun Y_8 H locs e_9 hH => ?_)
  have hq := bk_let_eq e_9 hq
  refine lv_aload_n hx hb dX5_init_12 rfl (lv_at hl 0 rfl) ?_
  refine lv_iconst (v := 4) hx hb dX5_init_13 (by decide) ?_
  refine bk_newa (K := 4) C hH (Or.inl ⟨rfl, rfl⟩) ac_2 (by decide) (by decide) (by decide) (by decide) (by decide) dX5_init_14 (fun Y_11 V_12 H e_13 e_14 hH => ?_)
  have hq := bk_let_eq e_13 hq
  have hq := bk_let_eq e_14 hq
  obtain ⟨b_10, e_15⟩ : ∃ z, z = bk_sz Y_8 := ⟨_, rfl⟩
  have hq := bk_let_eq e_15 hq
  rw [← e_15]
  refine W.widen (k := 2) (n := 12) (by decide) (by decide) ?_
  obtain ⟨hs_16, hq⟩ := bk_ck_some hq
  refine bk_putr C hH fp_RX5_15 (fun _ => hnm) hs_16 rfl rfl rfl dX5_init_16 (fun Y_17 H locs e_18 hH => ?_)
  have hq := bk_let_eq e_18 hq
  refine lv_aload_n hx hb dX5_init_19 rfl (lv_at hl 0 rfl) ?_
  refine bk_new C hH ok_0 cl_RX5_18 ib_RX1 in_RX1 (by decide) (by decide) dX5_init_20 (fun Y_20 V_21 H e_22 e_23 hH => ?_)
  have hq := bk_let_eq e_22 hq
  have hq := bk_let_eq e_23 hq
  obtain ⟨b_19, e_24⟩ : ∃ z, z = bk_sz Y_17 := ⟨_, rfl⟩
  have hq := bk_let_eq e_24 hq
  rw [← e_24]
  refine W.widen (k := 3) (n := 17) (by decide) (by decide) ?_
  refine lv_dup hx hb dX5_init_23 rfl ?_
  obtain ⟨Y_26, V_27, hr_25, hq⟩ := bk_bd2_some hq
  refine bk_callI (b := b_19) (rest := [.ref b_19, .ref a0]) (As := []) (Y1 := Y_26) (V1 := V_27) C hH hl.1 (c_X1_init hr_25) mc_X1_init im_X1_init rfl lk_RX5_20 rfl ⟨rfl, rfl⟩ ⟨by decide, by decide⟩ rfl (Nat.le_of_ble_eq_true rfl) dX5_init_24 ⟨by decide, by decide⟩ (fun H locs hH => ?_)
  refine W.widen (k := 6) (n := 35) (by decide) (by decide) ?_
  obtain ⟨hs_28, hq⟩ := bk_ck_some hq
  refine bk_putr C hH fp_RX5_21 (fun _ => hnm) hs_28 rfl rfl rfl dX5_init_27 (fun Y_29 H locs e_30 hH => ?_)
  have hq := bk_let_eq e_30 hq
  refine lv_aload_n hx hb dX5_init_30 rfl (lv_at hl 0 rfl) ?_
  refine bk_new C hH ok_9 cl_RX5_25 ib_RX10 in_RX10 (by decide) (by decide) dX5_init_31 (fun Y_32 V_33 H e_34 e_35 hH => ?_)
  have hq := bk_let_eq e_34 hq
  have hq := bk_let_eq e_35 hq
  obtain ⟨b_31, e_36⟩ : ∃ z, z = bk_sz Y_29 := ⟨_, rfl⟩
  have hq := bk_let_eq e_36 hq
  rw [← e_36]
  refine W.widen (k := 7) (n := 38) (by decide) (by decide) ?_
  refine lv_dup hx hb dX5_init_34 rfl ?_
  obtain ⟨Y_38, V_39, hr_37, hq⟩ := bk_bd2_some hq
  refine bk_callI (b := b_31) (rest := [.ref b_31, .ref a0]) (As := []) (Y1 := Y_38) (V1 := V_39) C hH hl.1 (c_X10_init hr_37) mc_X10_init im_X10_init rfl lk_RX5_27 rfl ⟨rfl, rfl⟩ ⟨by decide, by decide⟩ rfl (Nat.le_of_ble_eq_true rfl) dX5_init_35 ⟨by decide, by decide⟩ (fun H locs hH => ?_)
  refine W.widen (k := 9) (n := 50) (by decide) (by decide) ?_
  obtain ⟨hs_40, hq⟩ := bk_ck_some hq
  refine bk_putr C hH fp_RX5_28 (fun _ => hnm) hs_40 rfl rfl rfl dX5_init_38 (fun Y_41 H locs e_42 hH => ?_)
  have hq := bk_let_eq e_42 hq
  refine lv_aload_n hx hb dX5_init_41 rfl (lv_at hl 0 rfl) ?_
  refine bk_new C hH ok_1 cl_RX5_32 ib_RX2 in_RX2 (by decide) (by decide) dX5_init_42 (fun Y_44 V_45 H e_46 e_47 hH => ?_)
  have hq := bk_let_eq e_46 hq
  have hq := bk_let_eq e_47 hq
  obtain ⟨b_43, e_48⟩ : ∃ z, z = bk_sz Y_41 := ⟨_, rfl⟩
  have hq := bk_let_eq e_48 hq
  rw [← e_48]
  refine W.widen (k := 10) (n := 55) (by decide) (by decide) ?_
  refine lv_dup hx hb dX5_init_45 rfl ?_
  obtain ⟨Y_50, V_51, hr_49, hq⟩ := bk_bd2_some hq
  refine bk_callI (b := b_43) (rest := [.ref b_43, .ref a0]) (As := []) (Y1 := Y_50) (V1 := V_51) C hH hl.1 (c_X2_init hr_49) mc_X2_init im_X2_init rfl lk_RX5_34 rfl ⟨rfl, rfl⟩ ⟨by decide, by decide⟩ rfl (Nat.le_of_ble_eq_true rfl) dX5_init_46 ⟨by decide, by decide⟩ (fun H locs hH => ?_)
  refine W.widen (k := 14) (n := 87) (by decide) (by decide) ?_
  obtain ⟨hs_52, hq⟩ := bk_ck_some hq
  refine bk_putr C hH fp_RX5_35 (fun _ => hnm) hs_52 rfl rfl rfl dX5_init_49 (fun Y_53 H locs e_54 hH => ?_)
  have hq := bk_let_eq e_54 hq
  refine lv_aload_n hx hb dX5_init_52 rfl (lv_at hl 0 rfl) ?_
  refine bk_new C hH ok_3 cl_RX5_39 ib_RX4 in_RX4 (by decide) (by decide) dX5_init_53 (fun Y_56 V_57 H e_58 e_59 hH => ?_)
  have hq := bk_let_eq e_58 hq
  have hq := bk_let_eq e_59 hq
  obtain ⟨b_55, e_60⟩ : ∃ z, z = bk_sz Y_53 := ⟨_, rfl⟩
  have hq := bk_let_eq e_60 hq
  rw [← e_60]
  refine W.widen (k := 15) (n := 90) (by decide) (by decide) ?_
  refine lv_dup hx hb dX5_init_56 rfl ?_
  obtain ⟨Y_62, V_63, hr_61, hq⟩ := bk_bd2_some hq
  refine bk_callI (b := b_55) (rest := [.ref b_55, .ref a0]) (As := []) (Y1 := Y_62) (V1 := V_63) C hH hl.1 (c_X4_init hr_61) mc_X4_init im_X4_init rfl lk_RX5_41 rfl ⟨rfl, rfl⟩ ⟨by decide, by decide⟩ rfl (Nat.le_of_ble_eq_true rfl) dX5_init_57 ⟨by decide, by decide⟩ (fun H locs hH => ?_)
  refine W.widen (k := 17) (n := 830) (by decide) (by decide) ?_
  obtain ⟨hs_64, hq⟩ := bk_ck_some hq
  refine bk_putr C hH fp_RX5_42 (fun _ => hnm) hs_64 rfl rfl rfl dX5_init_60 (fun Y_65 H locs e_66 hH => ?_)
  have hq := bk_let_eq e_66 hq
  refine lv_aload_n hx hb dX5_init_63 rfl (lv_at hl 0 rfl) ?_
  refine bk_new C hH ok_3 cl_RX5_39 ib_RX4 in_RX4 (by decide) (by decide) dX5_init_64 (fun Y_68 V_69 H e_70 e_71 hH => ?_)
  have hq := bk_let_eq e_70 hq
  have hq := bk_let_eq e_71 hq
  obtain ⟨b_67, e_72⟩ : ∃ z, z = bk_sz Y_65 := ⟨_, rfl⟩
  have hq := bk_let_eq e_72 hq
  rw [← e_72]
  refine W.widen (k := 18) (n := 833) (by decide) (by decide) ?_
  refine lv_dup hx hb dX5_init_67 rfl ?_
  obtain ⟨Y_74, V_75, hr_73, hq⟩ := bk_bd2_some hq
  refine bk_callI (b := b_67) (rest := [.ref b_67, .ref a0]) (As := []) (Y1 := Y_74) (V1 := V_75) C hH hl.1 (c_X4_init hr_73) mc_X4_init im_X4_init rfl lk_RX5_41 rfl ⟨rfl, rfl⟩ ⟨by decide, by decide⟩ rfl (Nat.le_of_ble_eq_true rfl) dX5_init_68 ⟨by decide, by decide⟩ (fun H locs hH => ?_)
  refine W.widen (k := 20) (n := 1573) (by decide) (by decide) ?_
  obtain ⟨hs_76, hq⟩ := bk_ck_some hq
  refine bk_putr C hH fp_RX5_46 (fun _ => hnm) hs_76 rfl rfl rfl dX5_init_71 (fun Y_77 H locs e_78 hH => ?_)
  have hq := bk_let_eq e_78 hq
  refine lv_aload_n hx hb dX5_init_74 rfl (lv_at hl 0 rfl) ?_
  refine lv_bipush (v := 6) hx hb dX5_init_75 (by decide) ?_
  refine bk_newa (K := 6) C hH (Or.inl ⟨rfl, rfl⟩) ac_2 (by decide) (by decide) (by decide) (by decide) (by decide) dX5_init_77 (fun Y_80 V_81 H e_82 e_83 hH => ?_)
  have hq := bk_let_eq e_82 hq
  have hq := bk_let_eq e_83 hq
  obtain ⟨b_79, e_84⟩ : ∃ z, z = bk_sz Y_77 := ⟨_, rfl⟩
  have hq := bk_let_eq e_84 hq
  rw [← e_84]
  refine W.widen (k := 21) (n := 1579) (by decide) (by decide) ?_
  obtain ⟨hs_85, hq⟩ := bk_ck_some hq
  refine bk_putr C hH fp_RX5_49 (fun _ => hnm) hs_85 rfl rfl rfl dX5_init_79 (fun Y_86 H locs e_87 hH => ?_)
  have hq := bk_let_eq e_87 hq
  refine lv_aload_n hx hb dX5_init_82 rfl (lv_at hl 0 rfl) ?_
  obtain ⟨V_89, hr_88, hq⟩ := bk_bd_some hq
  refine bk_callV (rest := []) (As := []) (ro := none) (Y1 := Y_86) (V1 := V_89) C hH hl.1 (c_X5_clear hr_88) mc_X5_clear mv_X5_clear lk_RX5_52 (by rw [e_87]; exact hs_85) rfl rfl ⟨rfl, rfl⟩ ⟨by decide, by decide⟩ rfl (Nat.le_of_ble_eq_true rfl) dX5_init_83 ⟨by decide, by decide⟩ (fun H locs hH => ?_)
  cases hq
  exact bk_vret C hH dX5_init_86
set_option maxRecDepth 100000 in
theorem c_X5_init {l : Launch} {G : bk_G} {N : Nat} {Y : bk_Lay} {V : bk_Val} {a0 : Nat} {out : bk_Lay × bk_Val} (hq : q_X5_init N Y V a0 = some out) : Met l yX5_init (bk_ws yX5_init cX5_init 1 (none : Option FieldType)) rm_X5_init (bk_Pc G [.ref a0] Y V) (bk_Q G none out.1 out.2) 21 1579 (bk_A G) :=
  bk_met (by decide) (Nat.le_of_ble_eq_true rfl) (fun p e s m args below meth c ls C hnm hH hl => w_X5_init C hnm _ _ _ _ _ _ _ hl hH hq)

def rm_X9_init : Room := bk_rm 1 0 0 24
set_option maxRecDepth 100000 in
set_option maxHeartbeats 4000000 in
theorem w_X9_init (C : bk_C G p s m args meth c cX9_init RX9 2 (none : Option FieldType)) (hnm : meth.name = "<init>") : ∀ (Y : bk_Lay) (V : bk_Val) (a0 : Nat) (a1 : Nat) (H : Heap) (locs : List Loc) (ls : Array Slot) (out : bk_Lay × bk_Val), lv_has ls 2 [(0, .ref a0), (1, .ref a1)] → bk_H G Y V s.heap H locs → q_X9_init N Y V a0 a1 = some out → W p l e rm_X9_init s m args below meth c H locs 0 0 (MQ below (bk_Q G none out.1 out.2) args s 0 0 (bk_A G)) (F0 m 0 ls []) := by
  have hx := C.1
  have hb := C.2.1
  intro Y V a0 a1 H locs ls out hl hH hq
  unfold q_X9_init at hq
  refine lv_aload_n hx hb dX9_init_0 rfl (lv_at hl 0 rfl) ?_
  refine bk_obin C hl.1 oi_RX9 oj ok_obj dX9_init_1 (by decide) (by decide) ?_
  refine lv_aload_n hx hb dX9_init_4 rfl (lv_at hl 0 rfl) ?_
  refine lv_aload_n hx hb dX9_init_5 rfl (lv_at hl 1 rfl) ?_
  obtain ⟨hs_1, hq⟩ := bk_ck_some hq
  refine bk_putr C hH fp_RX9_7 (fun _ => hnm) hs_1 rfl rfl rfl dX9_init_6 (fun Y_2 H locs e_3 hH => ?_)
  have hq := bk_let_eq e_3 hq
  cases hq
  exact bk_vret C hH dX9_init_9
set_option maxRecDepth 100000 in
theorem c_X9_init {l : Launch} {G : bk_G} {N : Nat} {Y : bk_Lay} {V : bk_Val} {a0 : Nat} {a1 : Nat} {out : bk_Lay × bk_Val} (hq : q_X9_init N Y V a0 a1 = some out) : Met l yX9_init (bk_ws yX9_init cX9_init 2 (none : Option FieldType)) rm_X9_init (bk_Pc G [.ref a0, .ref a1] Y V) (bk_Q G none out.1 out.2) 0 0 (bk_A G) :=
  bk_met (by decide) (Nat.le_of_ble_eq_true rfl) (fun p e s m args below meth c ls C hnm hH hl => w_X9_init C hnm _ _ _ _ _ _ _ _ hl hH hq)

def rm_X8_init : Room := bk_rm 2 1 5 45
set_option maxRecDepth 100000 in
set_option maxHeartbeats 4000000 in
theorem w_X8_init (C : bk_C G p s m args meth c cX8_init RX8 3 (none : Option FieldType)) (hnm : meth.name = "<init>") : ∀ (Y : bk_Lay) (V : bk_Val) (a0 : Nat) (a1 : Nat) (a2 : Nat) (H : Heap) (locs : List Loc) (ls : Array Slot) (out : bk_Lay × bk_Val), lv_has ls 3 [(0, .ref a0), (1, .ref a1), (2, .ref a2)] → bk_H G Y V s.heap H locs → q_X8_init N Y V a0 a1 a2 = some out → W p l e rm_X8_init s m args below meth c H locs 0 0 (MQ below (bk_Q G none out.1 out.2) args s 1 5 (bk_A G)) (F0 m 0 ls []) := by
  have hx := C.1
  have hb := C.2.1
  intro Y V a0 a1 a2 H locs ls out hl hH hq
  unfold q_X8_init at hq
  refine lv_aload_n hx hb dX8_init_0 rfl (lv_at hl 0 rfl) ?_
  refine bk_obin C hl.1 oi_RX8 oj ok_obj dX8_init_1 (by decide) (by decide) ?_
  refine lv_aload_n hx hb dX8_init_4 rfl (lv_at hl 0 rfl) ?_
  refine bk_new C hH ok_8 cl_RX8_9 ib_RX9 in_RX9 (by decide) (by decide) dX8_init_5 (fun Y_2 V_3 H e_4 e_5 hH => ?_)
  have hq := bk_let_eq e_4 hq
  have hq := bk_let_eq e_5 hq
  obtain ⟨b_1, e_6⟩ : ∃ z, z = bk_sz Y := ⟨_, rfl⟩
  have hq := bk_let_eq e_6 hq
  rw [← e_6]
  refine W.widen (k := 1) (n := 5) (by decide) (by decide) ?_
  refine lv_dup hx hb dX8_init_8 rfl ?_
  refine lv_aload_n hx hb dX8_init_9 rfl (lv_at hl 1 rfl) ?_
  obtain ⟨Y_8, V_9, hr_7, hq⟩ := bk_bd2_some hq
  refine bk_callI (b := b_1) (rest := [.ref b_1, .ref a0]) (As := [.ref a1]) (Y1 := Y_8) (V1 := V_9) C hH hl.1 (c_X9_init hr_7) mc_X9_init im_X9_init rfl lk_RX8_11 rfl ⟨rfl, rfl⟩ ⟨by decide, by decide⟩ rfl (Nat.le_of_ble_eq_true rfl) dX8_init_10 ⟨by decide, by decide⟩ (fun H locs hH => ?_)
  obtain ⟨hs_10, hq⟩ := bk_ck_some hq
  refine bk_putr C hH fp_RX8_14 (fun _ => hnm) hs_10 rfl rfl rfl dX8_init_13 (fun Y_11 H locs e_12 hH => ?_)
  have hq := bk_let_eq e_12 hq
  refine lv_aload_n hx hb dX8_init_16 rfl (lv_at hl 0 rfl) ?_
  refine lv_aload_n hx hb dX8_init_17 rfl (lv_at hl 2 rfl) ?_
  refine bk_putr C hH fp_RX8_20 (fun h => by cases h) (by rw [e_12]; exact hs_10) rfl rfl rfl dX8_init_18 (fun Y_13 H locs e_14 hH => ?_)
  have hq := bk_let_eq e_14 hq
  cases hq
  exact bk_vret C hH dX8_init_21
set_option maxRecDepth 100000 in
theorem c_X8_init {l : Launch} {G : bk_G} {N : Nat} {Y : bk_Lay} {V : bk_Val} {a0 : Nat} {a1 : Nat} {a2 : Nat} {out : bk_Lay × bk_Val} (hq : q_X8_init N Y V a0 a1 a2 = some out) : Met l yX8_init (bk_ws yX8_init cX8_init 3 (none : Option FieldType)) rm_X8_init (bk_Pc G [.ref a0, .ref a1, .ref a2] Y V) (bk_Q G none out.1 out.2) 1 5 (bk_A G) :=
  bk_met (by decide) (Nat.le_of_ble_eq_true rfl) (fun p e s m args below meth c ls C hnm hH hl => w_X8_init C hnm _ _ _ _ _ _ _ _ _ hl hH hq)

def rm_X10_isCheaper : Room := bk_rm 0 0 0 0
set_option maxRecDepth 100000 in
set_option maxHeartbeats 4000000 in
theorem w_X10_isCheaper (C : bk_C G p s m args meth c cX10_isCheaper RX10 3 (some FieldType.boolean)) : ∀ (V : bk_Val) (a0 : Nat) (x1 : Int32) (x2 : Int32) (H : Heap) (locs : List Loc) (ls : Array Slot) (out : Int32), lv_has ls 3 [(0, .ref a0), (1, .int x1), (2, .int x2)] → bk_H G Y V s.heap H locs → q_X10_isCheaper N Y V a0 x1 x2 = some out → W p l e rm_X10_isCheaper s m args below meth c H locs 0 0 (MQ below (bk_Q G (some (.int out)) Y V) args s 0 0 (bk_A G)) (F0 m 0 ls []) := by
  have hx := C.1
  have hb := C.2.1
  intro V a0 x1 x2 H locs ls out hl hH hq
  unfold q_X10_isCheaper at hq
  refine lv_aload_n hx hb dX10_isCheaper_0 rfl (lv_at hl 0 rfl) ?_
  obtain ⟨hs_1, hq⟩ := bk_ck_some hq
  obtain ⟨b_2, hr_3, hq⟩ := bk_bd_some hq
  refine bk_getr C hH fl_RX10_9 hs_1 rfl hr_3 dX10_isCheaper_1 ?_
  refine lv_iload_n hx hb dX10_isCheaper_4 rfl (lv_at hl 1 rfl) ?_
  obtain ⟨ha_4, hq⟩ := bk_ck_some hq
  obtain ⟨hi_5, hq⟩ := bk_ck_some hq
  refine bk_iald C hH (bk_arr ha_4) (bk_in_vp hi_5) dX10_isCheaper_5 ?_
  refine lv_aload_n hx hb dX10_isCheaper_6 rfl (lv_at hl 0 rfl) ?_
  obtain ⟨b_6, hr_7, hq⟩ := bk_bd_some hq
  refine bk_getr C hH fl_RX10_15 hs_1 rfl hr_7 dX10_isCheaper_7 ?_
  refine lv_iload_n hx hb dX10_isCheaper_10 rfl (lv_at hl 2 rfl) ?_
  obtain ⟨ha_8, hq⟩ := bk_ck_some hq
  obtain ⟨hi_9, hq⟩ := bk_ck_some hq
  refine bk_iald C hH (bk_arr ha_8) (bk_in_vp hi_9) dX10_isCheaper_11 ?_
  refine lv_imul hx hb dX10_isCheaper_12 ?_
  refine lv_aload_n hx hb dX10_isCheaper_13 rfl (lv_at hl 0 rfl) ?_
  refine bk_getr C hH fl_RX10_9 hs_1 rfl hr_3 dX10_isCheaper_14 ?_
  refine lv_iload_n hx hb dX10_isCheaper_17 rfl (lv_at hl 2 rfl) ?_
  obtain ⟨hi_10, hq⟩ := bk_ck_some hq
  refine bk_iald C hH (bk_arr ha_4) (bk_in_vp hi_10) dX10_isCheaper_18 ?_
  refine lv_aload_n hx hb dX10_isCheaper_19 rfl (lv_at hl 0 rfl) ?_
  refine bk_getr C hH fl_RX10_15 hs_1 rfl hr_7 dX10_isCheaper_20 ?_
  refine lv_iload_n hx hb dX10_isCheaper_23 rfl (lv_at hl 1 rfl) ?_
  obtain ⟨hi_11, hq⟩ := bk_ck_some hq
  refine bk_iald C hH (bk_arr ha_8) (bk_in_vp hi_11) dX10_isCheaper_24 ?_
  refine lv_imul hx hb dX10_isCheaper_25 ?_
  refine lv_icmp_ge (tgt := 33) hx hb dX10_isCheaper_26 (by decide) (fun hc_12 => ?_) (fun hc_12 => ?_)
  · rw [if_pos hc_12] at hq
    refine lv_iconst (v := 0) hx hb dX10_isCheaper_33 (by decide) ?_
    cases hq
    exact bk_zret C hH (Or.inl rfl) dX10_isCheaper_34
  · rw [if_neg hc_12] at hq
    refine lv_iconst (v := 1) hx hb dX10_isCheaper_29 (by decide) ?_
    refine lv_goto (tgt := 34) hx hb dX10_isCheaper_30 (by decide) ?_
    cases hq
    exact bk_zret C hH (Or.inr rfl) dX10_isCheaper_34
set_option maxRecDepth 100000 in
theorem c_X10_isCheaper {l : Launch} {G : bk_G} {N : Nat} {Y : bk_Lay} {V : bk_Val} {a0 : Nat} {x1 : Int32} {x2 : Int32} {out : Int32} (hq : q_X10_isCheaper N Y V a0 x1 x2 = some out) : Met l yX10_isCheaper (bk_ws yX10_isCheaper cX10_isCheaper 3 (some FieldType.boolean)) rm_X10_isCheaper (bk_Pc G [.ref a0, .int x1, .int x2] Y V) (bk_Q G (some (.int out)) Y V) 0 0 (bk_A G) :=
  bk_met (by decide) (Nat.le_of_ble_eq_true rfl) (fun p e s m args below meth c ls C hnm hH hl => w_X10_isCheaper C _ _ _ _ _ _ _ _ hl hH hq)

def rm_X10_putInOrder : Room := bk_rm 1 0 0 22
set_option maxRecDepth 100000 in
set_option maxHeartbeats 4000000 in
theorem w_X10_putInOrder_49 (C : bk_C G p s m args meth c cX10_putInOrder RX10 4 (none : Option FieldType)) (k2 : bk_Val → Nat → Nat → Int32 → Option (bk_Val)) (i2 : ∀ (V : bk_Val) (a0 : Nat) (a1 : Nat) (x2 : Int32) (H : Heap) (locs : List Loc) (ls : Array Slot) (out : bk_Val), lv_has ls 4 [(0, .ref a0), (1, .ref a1), (2, .int x2)] → bk_H G Y V s.heap H locs → k2 V a0 a1 x2 = some out → W p l e rm_X10_putInOrder s m args below meth c H locs 0 0 (MQ below (bk_Q G none Y out) args s 0 0 (bk_A G)) (F0 m 2 ls [])) : ∀ (V : bk_Val) (a0 : Nat) (a1 : Nat) (x2 : Int32) (x3 : Int32) (H : Heap) (locs : List Loc) (ls : Array Slot) (out : bk_Val), lv_has ls 4 [(0, .ref a0), (1, .ref a1), (2, .int x2), (3, .int x3)] → bk_H G Y V s.heap H locs → q_X10_putInOrder_49 N Y k2 V a0 a1 x2 x3 = some out → W p l e rm_X10_putInOrder s m args below meth c H locs 0 0 (MQ below (bk_Q G none Y out) args s 0 0 (bk_A G)) (F0 m 49 ls []) := by
  have hx := C.1
  have hb := C.2.1
  intro V a0 a1 x2 x3 H locs ls out hl hH hq
  unfold q_X10_putInOrder_49 at hq
  refine lv_aload_n hx hb dX10_putInOrder_49 rfl (lv_at hl 1 rfl) ?_
  refine lv_iload_n hx hb dX10_putInOrder_50 rfl (lv_at hl 3 rfl) ?_
  refine lv_iload_n hx hb dX10_putInOrder_51 rfl (lv_at hl 2 rfl) ?_
  obtain ⟨ha_1, hq⟩ := bk_ck_some hq
  obtain ⟨hi_2, hq⟩ := bk_ck_some hq
  refine bk_iast C hH (bk_arr ha_1) (bk_in_vp hi_2) dX10_putInOrder_52 (fun V_3 H locs e_4 hH => ?_)
  have hq := bk_let_eq e_4 hq
  refine lv_iinc (v := (x2 + 1)) (lv' := [(2, .int (x2 + 1)), (0, .ref a0), (1, .ref a1), (3, .int x3)]) hx hb dX10_putInOrder_53 hl (k := 2) rfl rfl (by decide) rfl (fun ls hl => ?_)
  refine lv_goto (tgt := 2) hx hb dX10_putInOrder_56 (by decide) ?_
  exact i2 _ _ _ _ _ _ _ _ (lv_sub hl [1, 2, 0] rfl) hH hq

set_option maxRecDepth 100000 in
set_option maxHeartbeats 4000000 in
theorem w_X10_putInOrder_18 (C : bk_C G p s m args meth c cX10_putInOrder RX10 4 (none : Option FieldType)) (k2 : bk_Val → Nat → Nat → Int32 → Option (bk_Val)) (i2 : ∀ (V : bk_Val) (a0 : Nat) (a1 : Nat) (x2 : Int32) (H : Heap) (locs : List Loc) (ls : Array Slot) (out : bk_Val), lv_has ls 4 [(0, .ref a0), (1, .ref a1), (2, .int x2)] → bk_H G Y V s.heap H locs → k2 V a0 a1 x2 = some out → W p l e rm_X10_putInOrder s m args below meth c H locs 0 0 (MQ below (bk_Q G none Y out) args s 0 0 (bk_A G)) (F0 m 2 ls [])) : ∀ (n : Nat), ∀ (V : bk_Val) (a0 : Nat) (a1 : Nat) (x2 : Int32) (x3 : Int32) (H : Heap) (locs : List Loc) (ls : Array Slot) (out : bk_Val), lv_has ls 4 [(0, .ref a0), (1, .ref a1), (2, .int x2), (3, .int x3)] → bk_H G Y V s.heap H locs → q_X10_putInOrder_18 N Y k2 n V a0 a1 x2 x3 = some out → W p l e rm_X10_putInOrder s m args below meth c H locs 0 0 (MQ below (bk_Q G none Y out) args s 0 0 (bk_A G)) (F0 m 18 ls []) := by
  have hx := C.1
  have hb := C.2.1
  intro n
  induction n with
  | zero =>
    intro V a0 a1 x2 x3 H locs ls out hl hH hq
    exact nomatch (show (none : Option (bk_Val)) = some out from hq)
  | succ n ih =>
    intro V a0 a1 x2 x3 H locs ls out hl hH hq
    unfold q_X10_putInOrder_18 at hq
    refine lv_iload_n hx hb dX10_putInOrder_18 rfl (lv_at hl 3 rfl) ?_
    refine lv_if_le (tgt := 49) hx hb dX10_putInOrder_19 (by decide) (fun hc_15 => ?_) (fun hc_15 => ?_)
    · rw [if_pos hc_15] at hq
      exact w_X10_putInOrder_49 C _ i2 _ _ _ _ _ _ _ _ _ (lv_sub hl [0, 1, 2, 3] rfl) hH hq
    · rw [if_neg hc_15] at hq
      refine lv_aload_n hx hb dX10_putInOrder_22 rfl (lv_at hl 0 rfl) ?_
      refine lv_iload_n hx hb dX10_putInOrder_23 rfl (lv_at hl 2 rfl) ?_
      refine lv_aload_n hx hb dX10_putInOrder_24 rfl (lv_at hl 1 rfl) ?_
      refine lv_iload_n hx hb dX10_putInOrder_25 rfl (lv_at hl 3 rfl) ?_
      refine lv_iconst (v := 1) hx hb dX10_putInOrder_26 (by decide) ?_
      refine lv_isub hx hb dX10_putInOrder_27 ?_
      obtain ⟨ha_5, hq⟩ := bk_ck_some hq
      obtain ⟨hi_6, hq⟩ := bk_ck_some hq
      refine bk_iald C hH (bk_arr ha_5) (bk_in_vp hi_6) dX10_putInOrder_28 ?_
      obtain ⟨hs_9, hq⟩ := bk_ck_some hq
      obtain ⟨r_8, hr_7, hq⟩ := bk_bd_some hq
      refine bk_callV (rest := []) (As := [.int x2, .int (bk_rI V a1 (x3 - 1).toNatClampNeg)]) (ro := (some (.int r_8))) (Y1 := Y) (V1 := V) C hH hl.1 (c_X10_isCheaper hr_7) mc_X10_isCheaper mv_X10_isCheaper lk_RX10_22 hs_9 rfl rfl ⟨rfl, rfl⟩ ⟨by decide, by decide⟩ rfl (Nat.le_of_ble_eq_true rfl) dX10_putInOrder_29 ⟨by decide, by decide⟩ (fun H locs hH => ?_)
      refine lv_if_eq (tgt := 49) hx hb dX10_putInOrder_32 (by decide) (fun hc_14 => ?_) (fun hc_14 => ?_)
      · rw [if_pos hc_14] at hq
        exact w_X10_putInOrder_49 C _ i2 _ _ _ _ _ _ _ _ _ (lv_sub hl [0, 1, 2, 3] rfl) hH hq
      · rw [if_neg hc_14] at hq
        refine lv_aload_n hx hb dX10_putInOrder_35 rfl (lv_at hl 1 rfl) ?_
        refine lv_iload_n hx hb dX10_putInOrder_36 rfl (lv_at hl 3 rfl) ?_
        refine lv_aload_n hx hb dX10_putInOrder_37 rfl (lv_at hl 1 rfl) ?_
        refine lv_iload_n hx hb dX10_putInOrder_38 rfl (lv_at hl 3 rfl) ?_
        refine lv_iconst (v := 1) hx hb dX10_putInOrder_39 (by decide) ?_
        refine lv_isub hx hb dX10_putInOrder_40 ?_
        obtain ⟨hi_10, hq⟩ := bk_ck_some hq
        refine bk_iald C hH (bk_arr ha_5) (bk_in_vp hi_10) dX10_putInOrder_41 ?_
        obtain ⟨hi_11, hq⟩ := bk_ck_some hq
        refine bk_iast C hH (bk_arr ha_5) (bk_in_vp hi_11) dX10_putInOrder_42 (fun V_12 H locs e_13 hH => ?_)
        have hq := bk_let_eq e_13 hq
        refine lv_iinc (v := (x3 + (-1))) (lv' := [(3, .int (x3 + (-1))), (0, .ref a0), (1, .ref a1), (2, .int x2)]) hx hb dX10_putInOrder_43 hl (k := 3) rfl rfl (by decide) rfl (fun ls hl => ?_)
        refine lv_goto (tgt := 18) hx hb dX10_putInOrder_46 (by decide) ?_
        exact ih _ _ _ _ _ _ _ _ _ (lv_sub hl [1, 2, 3, 0] rfl) hH hq

set_option maxRecDepth 100000 in
set_option maxHeartbeats 4000000 in
theorem w_X10_putInOrder_2 (C : bk_C G p s m args meth c cX10_putInOrder RX10 4 (none : Option FieldType)) : ∀ (n : Nat), ∀ (V : bk_Val) (a0 : Nat) (a1 : Nat) (x2 : Int32) (H : Heap) (locs : List Loc) (ls : Array Slot) (out : bk_Val), lv_has ls 4 [(0, .ref a0), (1, .ref a1), (2, .int x2)] → bk_H G Y V s.heap H locs → q_X10_putInOrder_2 N Y n V a0 a1 x2 = some out → W p l e rm_X10_putInOrder s m args below meth c H locs 0 0 (MQ below (bk_Q G none Y out) args s 0 0 (bk_A G)) (F0 m 2 ls []) := by
  have hx := C.1
  have hb := C.2.1
  intro n
  induction n with
  | zero =>
    intro V a0 a1 x2 H locs ls out hl hH hq
    exact nomatch (show (none : Option (bk_Val)) = some out from hq)
  | succ n ih =>
    intro V a0 a1 x2 H locs ls out hl hH hq
    unfold q_X10_putInOrder_2 at hq
    refine lv_iload_n hx hb dX10_putInOrder_2 rfl (lv_at hl 2 rfl) ?_
    refine lv_aload_n hx hb dX10_putInOrder_3 rfl (lv_at hl 0 rfl) ?_
    obtain ⟨hs_16, hq⟩ := bk_ck_some hq
    refine bk_geti C hH fl_RX10_18 hs_16 rfl dX10_putInOrder_4 ?_
    refine lv_icmp_ge (tgt := 59) hx hb dX10_putInOrder_7 (by decide) (fun hc_19 => ?_) (fun hc_19 => ?_)
    · rw [if_pos hc_19] at hq
      cases hq
      exact bk_vret C hH dX10_putInOrder_59
    · rw [if_neg hc_19] at hq
      refine lv_iload_n hx hb dX10_putInOrder_10 rfl (lv_at hl 2 rfl) ?_
      refine lv_aload_n hx hb dX10_putInOrder_11 rfl (lv_at hl 1 rfl) ?_
      obtain ⟨ha_17, hq⟩ := bk_ck_some hq
      refine bk_alen C hH (bk_arr ha_17) (by decide) dX10_putInOrder_12 ?_
      refine lv_icmp_ge (tgt := 59) hx hb dX10_putInOrder_13 (by decide) (fun hc_18 => ?_) (fun hc_18 => ?_)
      · rw [if_pos hc_18] at hq
        cases hq
        exact bk_vret C hH dX10_putInOrder_59
      · rw [if_neg hc_18] at hq
        refine lv_iload_n hx hb dX10_putInOrder_16 rfl (lv_at hl 2 rfl) ?_
        refine lv_istore_n (lv' := [(3, .int x2), (0, .ref a0), (1, .ref a1), (2, .int x2)]) hx hb dX10_putInOrder_17 rfl hl (by decide) rfl (fun ls hl => ?_)
        exact w_X10_putInOrder_18 C _ ih _ _ _ _ _ _ _ _ _ _ (lv_sub hl [1, 2, 3, 0] rfl) hH hq

set_option maxRecDepth 100000 in
set_option maxHeartbeats 4000000 in
theorem w_X10_putInOrder (C : bk_C G p s m args meth c cX10_putInOrder RX10 4 (none : Option FieldType)) : ∀ (V : bk_Val) (a0 : Nat) (a1 : Nat) (H : Heap) (locs : List Loc) (ls : Array Slot) (out : bk_Val), lv_has ls 4 [(0, .ref a0), (1, .ref a1)] → bk_H G Y V s.heap H locs → q_X10_putInOrder N Y V a0 a1 = some out → W p l e rm_X10_putInOrder s m args below meth c H locs 0 0 (MQ below (bk_Q G none Y out) args s 0 0 (bk_A G)) (F0 m 0 ls []) := by
  have hx := C.1
  have hb := C.2.1
  intro V a0 a1 H locs ls out hl hH hq
  unfold q_X10_putInOrder at hq
  refine lv_iconst (v := 0) hx hb dX10_putInOrder_0 (by decide) ?_
  refine lv_istore_n (lv' := [(2, .int 0), (0, .ref a0), (1, .ref a1)]) hx hb dX10_putInOrder_1 rfl hl (by decide) rfl (fun ls hl => ?_)
  exact w_X10_putInOrder_2 C _ _ _ _ _ _ _ _ _ (lv_sub hl [1, 2, 0] rfl) hH hq
set_option maxRecDepth 100000 in
theorem c_X10_putInOrder {l : Launch} {G : bk_G} {N : Nat} {Y : bk_Lay} {V : bk_Val} {a0 : Nat} {a1 : Nat} {out : bk_Val} (hq : q_X10_putInOrder N Y V a0 a1 = some out) : Met l yX10_putInOrder (bk_ws yX10_putInOrder cX10_putInOrder 4 (none : Option FieldType)) rm_X10_putInOrder (bk_Pc G [.ref a0, .ref a1] Y V) (bk_Q G none Y out) 0 0 (bk_A G) :=
  bk_met (by decide) (Nat.le_of_ble_eq_true rfl) (fun p e s m args below meth c ls C hnm hH hl => w_X10_putInOrder C _ _ _ _ _ _ _ hl hH hq)

def rm_X3_totalBehind : Room := bk_rm 4 0 0 92
set_option maxRecDepth 100000 in
set_option maxHeartbeats 4000000 in
theorem w_X3_totalBehind (C : bk_C G p s m args meth c cX3_totalBehind RX3 2 (some FieldType.long)) : ∀ (V : bk_Val) (a0 : Nat) (x1 : Int32) (H : Heap) (locs : List Loc) (ls : Array Slot) (out : Int64 × bk_Val), lv_has ls 2 [(0, .ref a0), (1, .int x1)] → bk_H G Y V s.heap H locs → q_X3_totalBehind N Y V a0 x1 = some out → W p l e rm_X3_totalBehind s m args below meth c H locs 0 0 (MQ below (bk_Q G (some (.long out.1)) Y out.2) args s 0 0 (bk_A G)) (F0 m 0 ls []) := by
  have hx := C.1
  have hb := C.2.1
  intro V a0 x1 H locs ls out hl hH hq
  unfold q_X3_totalBehind at hq
  refine lv_iload_n hx hb dX3_totalBehind_0 rfl (lv_at hl 1 rfl) ?_
  refine lv_iconst (v := 0) hx hb dX3_totalBehind_1 (by decide) ?_
  refine lv_sipush (v := 600) hx hb dX3_totalBehind_2 (by decide) ?_
  obtain ⟨r_2, hr_1, hq⟩ := bk_bd_some hq
  refine bk_callS (rest := []) (As := [.int x1, .int 0, .int 600]) (ro := (some (.int r_2))) (Y1 := Y) (V1 := V) C hH hl.1 (c_X11_isWithin hr_1) mc_X11_isWithin st_X11_isWithin lk_RX3_64 rfl ⟨rfl, rfl⟩ ⟨by decide, by decide⟩ rfl (Nat.le_of_ble_eq_true rfl) dX3_totalBehind_5 ⟨by decide, by decide⟩ (fun H locs hH => ?_)
  refine lv_if_ne (tgt := 13) hx hb dX3_totalBehind_8 (by decide) (fun hc_10 => ?_) (fun hc_10 => ?_)
  · rw [if_neg hc_10] at hq
    refine lv_aload_n hx hb dX3_totalBehind_13 rfl (lv_at hl 0 rfl) ?_
    refine lv_iload_n hx hb dX3_totalBehind_14 rfl (lv_at hl 1 rfl) ?_
    obtain ⟨hs_5, hq⟩ := bk_ck_some hq
    obtain ⟨V_4, hr_3, hq⟩ := bk_bd_some hq
    refine bk_callV (rest := []) (As := [.int x1]) (ro := none) (Y1 := Y) (V1 := V_4) C hH hl.1 (c_X3_goOn hr_3) mc_X3_goOn mv_X3_goOn lk_RX3_68 hs_5 rfl rfl ⟨rfl, rfl⟩ ⟨by decide, by decide⟩ rfl (Nat.le_of_ble_eq_true rfl) dX3_totalBehind_15 ⟨by decide, by decide⟩ (fun H locs hH => ?_)
    refine lv_aload_n hx hb dX3_totalBehind_18 rfl (lv_at hl 0 rfl) ?_
    obtain ⟨b_6, hr_7, hq⟩ := bk_bd_some hq
    refine bk_getr C hH fl_RX3_22 hs_5 rfl hr_7 dX3_totalBehind_19 ?_
    refine lv_iload_n hx hb dX3_totalBehind_22 rfl (lv_at hl 1 rfl) ?_
    obtain ⟨ha_8, hq⟩ := bk_ck_some hq
    obtain ⟨hi_9, hq⟩ := bk_ck_some hq
    refine bk_lald C hH (bk_arr ha_8) (bk_in_vp hi_9) dX3_totalBehind_23 ?_
    cases hq
    exact bk_lret C hH dX3_totalBehind_24
  · rw [if_pos hc_10] at hq
    refine lv_lconst (v := 0) hx hb dX3_totalBehind_11 (by decide) ?_
    cases hq
    exact bk_lret C hH dX3_totalBehind_12
set_option maxRecDepth 100000 in
theorem c_X3_totalBehind {l : Launch} {G : bk_G} {N : Nat} {Y : bk_Lay} {V : bk_Val} {a0 : Nat} {x1 : Int32} {out : Int64 × bk_Val} (hq : q_X3_totalBehind N Y V a0 x1 = some out) : Met l yX3_totalBehind (bk_ws yX3_totalBehind cX3_totalBehind 2 (some FieldType.long)) rm_X3_totalBehind (bk_Pc G [.ref a0, .int x1] Y V) (bk_Q G (some (.long out.1)) Y out.2) 0 0 (bk_A G) :=
  bk_met (by decide) (Nat.le_of_ble_eq_true rfl) (fun p e s m args below meth c ls C hnm hH hl => w_X3_totalBehind C _ _ _ _ _ _ _ hl hH hq)

def rm_X0_totalOfSide : Room := bk_rm 0 0 0 0
set_option maxRecDepth 100000 in
set_option maxHeartbeats 4000000 in
theorem w_X0_totalOfSide_5 (C : bk_C G p s m args meth c cX0_totalOfSide RX0 5 (some FieldType.long)) : ∀ (n : Nat), ∀ (V : bk_Val) (a0 : Nat) (w2 : Int64) (x4 : Int32) (H : Heap) (locs : List Loc) (ls : Array Slot) (out : Int64), lv_has ls 5 [(0, .ref a0), (2, .long w2), (4, .int x4)] → bk_H G Y V s.heap H locs → q_X0_totalOfSide_5 N Y n V a0 w2 x4 = some out → W p l e rm_X0_totalOfSide s m args below meth c H locs 0 0 (MQ below (bk_Q G (some (.long out)) Y V) args s 0 0 (bk_A G)) (F0 m 5 ls []) := by
  have hx := C.1
  have hb := C.2.1
  intro n
  induction n with
  | zero =>
    intro V a0 w2 x4 H locs ls out hl hH hq
    exact nomatch (show (none : Option (Int64)) = some out from hq)
  | succ n ih =>
    intro V a0 w2 x4 H locs ls out hl hH hq
    unfold q_X0_totalOfSide_5 at hq
    refine lv_iload hx hb dX0_totalOfSide_5 (lv_at hl 2 rfl) ?_
    refine lv_if_lt (tgt := 30) hx hb dX0_totalOfSide_7 (by decide) (fun hc_6 => ?_) (fun hc_6 => ?_)
    · rw [if_pos hc_6] at hq
      refine lv_lload_n hx hb dX0_totalOfSide_30 rfl (lv_at hl 1 rfl) ?_
      cases hq
      exact bk_lret C hH dX0_totalOfSide_31
    · rw [if_neg hc_6] at hq
      refine lv_iload hx hb dX0_totalOfSide_10 (lv_at hl 2 rfl) ?_
      refine lv_aload_n hx hb dX0_totalOfSide_12 rfl (lv_at hl 0 rfl) ?_
      obtain ⟨ha_1, hq⟩ := bk_ck_some hq
      refine bk_alen C hH (bk_arr ha_1) (by decide) dX0_totalOfSide_13 ?_
      refine lv_icmp_ge (tgt := 30) hx hb dX0_totalOfSide_14 (by decide) (fun hc_5 => ?_) (fun hc_5 => ?_)
      · rw [if_pos hc_5] at hq
        refine lv_lload_n hx hb dX0_totalOfSide_30 rfl (lv_at hl 1 rfl) ?_
        cases hq
        exact bk_lret C hH dX0_totalOfSide_31
      · rw [if_neg hc_5] at hq
        refine lv_lload_n hx hb dX0_totalOfSide_17 rfl (lv_at hl 1 rfl) ?_
        refine lv_aload_n hx hb dX0_totalOfSide_18 rfl (lv_at hl 0 rfl) ?_
        refine lv_iload hx hb dX0_totalOfSide_19 (lv_at hl 2 rfl) ?_
        obtain ⟨hi_2, hq⟩ := bk_ck_some hq
        refine bk_lald C hH (bk_arr ha_1) (bk_in_vp hi_2) dX0_totalOfSide_21 ?_
        refine lv_ladd hx hb dX0_totalOfSide_22 ?_
        refine lv_topl (fun w2_3 e_4 => ?_)
        have hq := bk_let_eq e_4 hq
        refine lv_lstore_n (lv' := [(2, .long w2_3), (0, .ref a0), (4, .int x4)]) hx hb dX0_totalOfSide_23 rfl hl (by decide) rfl (fun ls hl => ?_)
        refine lv_iinc (v := (x4 + 4)) (lv' := [(4, .int (x4 + 4)), (2, .long w2_3), (0, .ref a0)]) hx hb dX0_totalOfSide_24 hl (k := 2) rfl rfl (by decide) rfl (fun ls hl => ?_)
        refine lv_goto (tgt := 5) hx hb dX0_totalOfSide_27 (by decide) ?_
        exact ih _ _ _ _ _ _ _ _ (lv_sub hl [2, 1, 0] rfl) hH hq

set_option maxRecDepth 100000 in
set_option maxHeartbeats 4000000 in
theorem w_X0_totalOfSide (C : bk_C G p s m args meth c cX0_totalOfSide RX0 5 (some FieldType.long)) : ∀ (V : bk_Val) (a0 : Nat) (x1 : Int32) (H : Heap) (locs : List Loc) (ls : Array Slot) (out : Int64), lv_has ls 5 [(0, .ref a0), (1, .int x1)] → bk_H G Y V s.heap H locs → q_X0_totalOfSide N Y V a0 x1 = some out → W p l e rm_X0_totalOfSide s m args below meth c H locs 0 0 (MQ below (bk_Q G (some (.long out)) Y V) args s 0 0 (bk_A G)) (F0 m 0 ls []) := by
  have hx := C.1
  have hb := C.2.1
  intro V a0 x1 H locs ls out hl hH hq
  unfold q_X0_totalOfSide at hq
  refine lv_lconst (v := 0) hx hb dX0_totalOfSide_0 (by decide) ?_
  refine lv_lstore_n (lv' := [(2, .long 0), (0, .ref a0), (1, .int x1)]) hx hb dX0_totalOfSide_1 rfl hl (by decide) rfl (fun ls hl => ?_)
  refine lv_iload_n hx hb dX0_totalOfSide_2 rfl (lv_at hl 2 rfl) ?_
  refine lv_istore (lv' := [(4, .int x1), (2, .long 0), (0, .ref a0), (1, .int x1)]) hx hb dX0_totalOfSide_3 hl (by decide) rfl (fun ls hl => ?_)
  exact w_X0_totalOfSide_5 C _ _ _ _ _ _ _ _ _ (lv_sub hl [2, 1, 0] rfl) hH hq
set_option maxRecDepth 100000 in
theorem c_X0_totalOfSide {l : Launch} {G : bk_G} {N : Nat} {Y : bk_Lay} {V : bk_Val} {a0 : Nat} {x1 : Int32} {out : Int64} (hq : q_X0_totalOfSide N Y V a0 x1 = some out) : Met l yX0_totalOfSide (bk_ws yX0_totalOfSide cX0_totalOfSide 5 (some FieldType.long)) rm_X0_totalOfSide (bk_Pc G [.ref a0, .int x1] Y V) (bk_Q G (some (.long out)) Y V) 0 0 (bk_A G) :=
  bk_met (by decide) (Nat.le_of_ble_eq_true rfl) (fun p e s m args below meth c ls C hnm hH hl => w_X0_totalOfSide C _ _ _ _ _ _ _ hl hH hq)

def rm_X9_begin : Room := bk_rm 2 0 0 40
set_option maxRecDepth 100000 in
set_option maxHeartbeats 4000000 in
theorem w_X9_begin (C : bk_C G p s m args meth c cX9_begin RX9 2 (none : Option FieldType)) : ∀ (V : bk_Val) (a0 : Nat) (x1 : Int32) (H : Heap) (locs : List Loc) (ls : Array Slot) (out : bk_Val), lv_has ls 2 [(0, .ref a0), (1, .int x1)] → bk_H G Y V s.heap H locs → q_X9_begin N Y V a0 x1 = some out → W p l e rm_X9_begin s m args below meth c H locs 0 0 (MQ below (bk_Q G none Y out) args s 0 0 (bk_A G)) (F0 m 0 ls []) := by
  have hx := C.1
  have hb := C.2.1
  intro V a0 x1 H locs ls out hl hH hq
  unfold q_X9_begin at hq
  refine lv_aload_n hx hb dX9_begin_0 rfl (lv_at hl 0 rfl) ?_
  refine lv_iconst (v := 0) hx hb dX9_begin_1 (by decide) ?_
  refine lv_iload_n hx hb dX9_begin_2 rfl (lv_at hl 1 rfl) ?_
  refine lv_aload_n hx hb dX9_begin_3 rfl (lv_at hl 0 rfl) ?_
  obtain ⟨hs_1, hq⟩ := bk_ck_some hq
  obtain ⟨b_2, hr_3, hq⟩ := bk_bd_some hq
  refine bk_getr C hH fl_RX9_7 hs_1 rfl hr_3 dX9_begin_4 ?_
  obtain ⟨ha_4, hq⟩ := bk_ck_some hq
  refine bk_alen C hH (bk_arr ha_4) (by decide) dX9_begin_7 ?_
  obtain ⟨r_6, hr_5, hq⟩ := bk_bd_some hq
  refine bk_callS (rest := [.int 0, .ref a0]) (As := [.int x1, .int (nI (bk_sh Y b_2).2)]) (ro := (some (.int r_6))) (Y1 := Y) (V1 := V) C hH hl.1 (c_J9_min_7cf53 hr_5) mc_J9_min_7cf53 st_J9_min_7cf53 lk_RX9_13 rfl ⟨rfl, rfl⟩ ⟨by decide, by decide⟩ rfl (Nat.le_of_ble_eq_true rfl) dX9_begin_8 ⟨by decide, by decide⟩ (fun H locs hH => ?_)
  obtain ⟨r_8, hr_7, hq⟩ := bk_bd_some hq
  refine bk_callS (rest := [.ref a0]) (As := [.int 0, .int r_6]) (ro := (some (.int r_8))) (Y1 := Y) (V1 := V) C hH hl.1 (c_J9_max_7cf53 hr_7) mc_J9_max_7cf53 st_J9_max_7cf53 lk_RX9_19 rfl ⟨rfl, rfl⟩ ⟨by decide, by decide⟩ rfl (Nat.le_of_ble_eq_true rfl) dX9_begin_11 ⟨by decide, by decide⟩ (fun H locs hH => ?_)
  refine bk_puti C hH fp_RX9_22 (fun h => by cases h) hs_1 rfl dX9_begin_14 (fun V_9 H locs e_10 hH => ?_)
  have hq := bk_let_eq e_10 hq
  refine lv_aload_n hx hb dX9_begin_17 rfl (lv_at hl 0 rfl) ?_
  refine lv_iconst (v := 0) hx hb dX9_begin_18 (by decide) ?_
  refine bk_puti C hH fp_RX9_26 (fun h => by cases h) hs_1 rfl dX9_begin_19 (fun V_11 H locs e_12 hH => ?_)
  have hq := bk_let_eq e_12 hq
  refine lv_aload_n hx hb dX9_begin_22 rfl (lv_at hl 0 rfl) ?_
  obtain ⟨V_14, hr_13, hq⟩ := bk_bd_some hq
  refine bk_callV (rest := []) (As := []) (ro := none) (Y1 := Y) (V1 := V_14) C hH hl.1 (c_X9_step hr_13) mc_X9_step mv_X9_step lk_RX9_29 hs_1 rfl rfl ⟨rfl, rfl⟩ ⟨by decide, by decide⟩ rfl (Nat.le_of_ble_eq_true rfl) dX9_begin_23 ⟨by decide, by decide⟩ (fun H locs hH => ?_)
  cases hq
  exact bk_vret C hH dX9_begin_26
set_option maxRecDepth 100000 in
theorem c_X9_begin {l : Launch} {G : bk_G} {N : Nat} {Y : bk_Lay} {V : bk_Val} {a0 : Nat} {x1 : Int32} {out : bk_Val} (hq : q_X9_begin N Y V a0 x1 = some out) : Met l yX9_begin (bk_ws yX9_begin cX9_begin 2 (none : Option FieldType)) rm_X9_begin (bk_Pc G [.ref a0, .int x1] Y V) (bk_Q G none Y out) 0 0 (bk_A G) :=
  bk_met (by decide) (Nat.le_of_ble_eq_true rfl) (fun p e s m args below meth c ls C hnm hH hl => w_X9_begin C _ _ _ _ _ _ _ hl hH hq)

def rm_X8_tell : Room := bk_rm 85 0 0 1956
set_option maxRecDepth 100000 in
set_option maxHeartbeats 4000000 in
theorem w_X8_tell_113 (C : bk_C G p s m args meth c cX8_tell RX8 4 (some FieldType.int)) : ∀ (Y : bk_Lay) (V : bk_Val) (a0 : Nat) (H : Heap) (locs : List Loc) (ls : Array Slot) (out : Int32 × bk_Lay × bk_Val), lv_has ls 4 [(0, .ref a0)] → bk_H G Y V s.heap H locs → q_X8_tell_113 N Y V a0 = some out → W p l e rm_X8_tell s m args below meth c H locs 0 0 (MQ below (bk_Q G (some (.int out.1)) out.2.1 out.2.2) args s 0 0 (bk_A G)) (F0 m 113 ls []) := by
  have hx := C.1
  have hb := C.2.1
  intro Y V a0 H locs ls out hl hH hq
  unfold q_X8_tell_113 at hq
  refine lv_aload_n hx hb dX8_tell_113 rfl (lv_at hl 0 rfl) ?_
  obtain ⟨hs_1, hq⟩ := bk_ck_some hq
  obtain ⟨b_2, hr_3, hq⟩ := bk_bd_some hq
  refine bk_getr C hH fl_RX8_20 hs_1 rfl hr_3 dX8_tell_114 ?_
  obtain ⟨hs_4, hq⟩ := bk_ck_some hq
  obtain ⟨b_5, hr_6, hq⟩ := bk_bd_some hq
  refine bk_getr C hH fl_RX8_67 hs_4 rfl hr_6 dX8_tell_117 ?_
  refine lv_iconst (v := 0) hx hb dX8_tell_120 (by decide) ?_
  obtain ⟨ha_7, hq⟩ := bk_ck_some hq
  obtain ⟨hi_8, hq⟩ := bk_ck_some hq
  refine bk_iald C hH (bk_arr ha_7) (bk_in_vp hi_8) dX8_tell_121 ?_
  refine lv_aload_n hx hb dX8_tell_122 rfl (lv_at hl 0 rfl) ?_
  refine bk_getr C hH fl_RX8_20 hs_1 rfl hr_3 dX8_tell_123 ?_
  refine bk_getr C hH fl_RX8_67 hs_4 rfl hr_6 dX8_tell_126 ?_
  refine lv_iconst (v := 1) hx hb dX8_tell_129 (by decide) ?_
  obtain ⟨hi_9, hq⟩ := bk_ck_some hq
  refine bk_iald C hH (bk_arr ha_7) (bk_in_vp hi_9) dX8_tell_130 ?_
  refine lv_iadd hx hb dX8_tell_131 ?_
  refine lv_aload_n hx hb dX8_tell_132 rfl (lv_at hl 0 rfl) ?_
  refine bk_getr C hH fl_RX8_20 hs_1 rfl hr_3 dX8_tell_133 ?_
  refine bk_getr C hH fl_RX8_67 hs_4 rfl hr_6 dX8_tell_136 ?_
  refine lv_iconst (v := 2) hx hb dX8_tell_139 (by decide) ?_
  obtain ⟨hi_10, hq⟩ := bk_ck_some hq
  refine bk_iald C hH (bk_arr ha_7) (bk_in_vp hi_10) dX8_tell_140 ?_
  refine lv_iadd hx hb dX8_tell_141 ?_
  refine lv_aload_n hx hb dX8_tell_142 rfl (lv_at hl 0 rfl) ?_
  refine bk_getr C hH fl_RX8_20 hs_1 rfl hr_3 dX8_tell_143 ?_
  refine bk_getr C hH fl_RX8_67 hs_4 rfl hr_6 dX8_tell_146 ?_
  refine lv_iconst (v := 3) hx hb dX8_tell_149 (by decide) ?_
  obtain ⟨hi_11, hq⟩ := bk_ck_some hq
  refine bk_iald C hH (bk_arr ha_7) (bk_in_vp hi_11) dX8_tell_150 ?_
  refine lv_iadd hx hb dX8_tell_151 ?_
  refine lv_if_ne (tgt := 162) hx hb dX8_tell_152 (by decide) (fun hc_15 => ?_) (fun hc_15 => ?_)
  · rw [if_neg hc_15] at hq
    refine lv_aload_n hx hb dX8_tell_162 rfl (lv_at hl 0 rfl) ?_
    refine bk_geti C hH fl_RX8_33 hs_1 rfl dX8_tell_163 ?_
    cases hq
    exact bk_iret C hH dX8_tell_166
  · rw [if_pos hc_15] at hq
    refine lv_aload_n hx hb dX8_tell_155 rfl (lv_at hl 0 rfl) ?_
    refine lv_bipush (v := 6) hx hb dX8_tell_156 (by decide) ?_
    obtain ⟨r_13, V_14, hr_12, hq⟩ := bk_bd2_some hq
    refine bk_callV (rest := []) (As := [.int 6]) (ro := (some (.int r_13))) (Y1 := Y) (V1 := V_14) C hH hl.1 (c_X8_refuse hr_12) mc_X8_refuse mv_X8_refuse lk_RX8_71 hs_1 rfl rfl ⟨rfl, rfl⟩ ⟨by decide, by decide⟩ rfl (Nat.le_of_ble_eq_true rfl) dX8_tell_158 ⟨by decide, by decide⟩ (fun H locs hH => ?_)
    refine lv_pop hx hb dX8_tell_161 rfl ?_
    refine lv_aload_n hx hb dX8_tell_162 rfl (lv_at hl 0 rfl) ?_
    refine bk_geti C hH fl_RX8_33 hs_1 rfl dX8_tell_163 ?_
    cases hq
    exact bk_iret C hH dX8_tell_166

set_option maxRecDepth 100000 in
set_option maxHeartbeats 4000000 in
theorem w_X8_tell_78 (C : bk_C G p s m args meth c cX8_tell RX8 4 (some FieldType.int)) : ∀ (n : Nat), ∀ (Y : bk_Lay) (V : bk_Val) (a0 : Nat) (x3 : Int32) (H : Heap) (locs : List Loc) (ls : Array Slot) (out : Int32 × bk_Lay × bk_Val), lv_has ls 4 [(0, .ref a0), (3, .int x3)] → bk_H G Y V s.heap H locs → q_X8_tell_78 N n Y V a0 x3 = some out → W p l e rm_X8_tell s m args below meth c H locs 0 0 (MQ below (bk_Q G (some (.int out.1)) out.2.1 out.2.2) args s 0 0 (bk_A G)) (F0 m 78 ls []) := by
  have hx := C.1
  have hb := C.2.1
  intro n
  induction n with
  | zero =>
    intro Y V a0 x3 H locs ls out hl hH hq
    exact nomatch (show (none : Option (Int32 × bk_Lay × bk_Val)) = some out from hq)
  | succ n ih =>
    intro Y V a0 x3 H locs ls out hl hH hq
    unfold q_X8_tell_78 at hq
    refine lv_iload_n hx hb dX8_tell_78 rfl (lv_at hl 1 rfl) ?_
    refine lv_sipush (v := 700) hx hb dX8_tell_79 (by decide) ?_
    refine lv_icmp_ge (tgt := 113) hx hb dX8_tell_82 (by decide) (fun hc_25 => ?_) (fun hc_25 => ?_)
    · rw [if_pos hc_25] at hq
      exact w_X8_tell_113 C _ _ _ _ _ _ _ (lv_sub hl [0] rfl) hH hq
    · rw [if_neg hc_25] at hq
      refine lv_aload_n hx hb dX8_tell_85 rfl (lv_at hl 0 rfl) ?_
      obtain ⟨hs_16, hq⟩ := bk_ck_some hq
      obtain ⟨b_17, hr_18, hq⟩ := bk_bd_some hq
      refine bk_getr C hH fl_RX8_14 hs_16 rfl hr_18 dX8_tell_86 ?_
      obtain ⟨hs_19, hq⟩ := bk_ck_some hq
      refine bk_geti C hH fl_RX8_60 hs_19 rfl dX8_tell_89 ?_
      refine lv_if_eq (tgt := 113) hx hb dX8_tell_92 (by decide) (fun hc_24 => ?_) (fun hc_24 => ?_)
      · rw [if_pos hc_24] at hq
        exact w_X8_tell_113 C _ _ _ _ _ _ _ (lv_sub hl [0] rfl) hH hq
      · rw [if_neg hc_24] at hq
        refine lv_aload_n hx hb dX8_tell_95 rfl (lv_at hl 0 rfl) ?_
        obtain ⟨r_21, V_22, hr_20, hq⟩ := bk_bd2_some hq
        refine bk_callV (rest := []) (As := []) (ro := (some (.int r_21))) (Y1 := Y) (V1 := V_22) C hH hl.1 (c_X8_readLine hr_20) mc_X8_readLine mv_X8_readLine lk_RX8_63 hs_16 rfl rfl ⟨rfl, rfl⟩ ⟨by decide, by decide⟩ rfl (Nat.le_of_ble_eq_true rfl) dX8_tell_96 ⟨by decide, by decide⟩ (fun H locs hH => ?_)
        refine lv_if_ne (tgt := 107) hx hb dX8_tell_99 (by decide) (fun hc_23 => ?_) (fun hc_23 => ?_)
        · rw [if_neg hc_23] at hq
          refine lv_iinc (v := (x3 + 1)) (lv' := [(3, .int (x3 + 1)), (0, .ref a0)]) hx hb dX8_tell_107 hl (k := 1) rfl rfl (by decide) rfl (fun ls hl => ?_)
          refine lv_goto (tgt := 78) hx hb dX8_tell_110 (by decide) ?_
          exact ih _ _ _ _ _ _ _ _ (lv_sub hl [1, 0] rfl) hH hq
        · rw [if_pos hc_23] at hq
          refine lv_aload_n hx hb dX8_tell_102 rfl (lv_at hl 0 rfl) ?_
          refine bk_geti C hH fl_RX8_33 hs_16 rfl dX8_tell_103 ?_
          cases hq
          exact bk_iret C hH dX8_tell_106

set_option maxRecDepth 100000 in
set_option maxHeartbeats 4000000 in
theorem w_X8_tell_76 (C : bk_C G p s m args meth c cX8_tell RX8 4 (some FieldType.int)) : ∀ (Y : bk_Lay) (V : bk_Val) (a0 : Nat) (H : Heap) (locs : List Loc) (ls : Array Slot) (out : Int32 × bk_Lay × bk_Val), lv_has ls 4 [(0, .ref a0)] → bk_H G Y V s.heap H locs → q_X8_tell_76 N Y V a0 = some out → W p l e rm_X8_tell s m args below meth c H locs 0 0 (MQ below (bk_Q G (some (.int out.1)) out.2.1 out.2.2) args s 0 0 (bk_A G)) (F0 m 76 ls []) := by
  have hx := C.1
  have hb := C.2.1
  intro Y V a0 H locs ls out hl hH hq
  unfold q_X8_tell_76 at hq
  refine lv_iconst (v := 0) hx hb dX8_tell_76 (by decide) ?_
  refine lv_istore_n (lv' := [(3, .int 0), (0, .ref a0)]) hx hb dX8_tell_77 rfl hl (by decide) rfl (fun ls hl => ?_)
  exact w_X8_tell_78 C _ _ _ _ _ _ _ _ _ (lv_sub hl [1, 0] rfl) hH hq

set_option maxRecDepth 100000 in
set_option maxHeartbeats 4000000 in
theorem w_X8_tell (C : bk_C G p s m args meth c cX8_tell RX8 4 (some FieldType.int)) : ∀ (Y : bk_Lay) (V : bk_Val) (a0 : Nat) (x1 : Int32) (a2 : Nat) (H : Heap) (locs : List Loc) (ls : Array Slot) (out : Int32 × bk_Lay × bk_Val), lv_has ls 4 [(0, .ref a0), (1, .int x1), (2, .ref a2)] → bk_H G Y V s.heap H locs → q_X8_tell N Y V a0 x1 a2 = some out → W p l e rm_X8_tell s m args below meth c H locs 0 0 (MQ below (bk_Q G (some (.int out.1)) out.2.1 out.2.2) args s 0 0 (bk_A G)) (F0 m 0 ls []) := by
  have hx := C.1
  have hb := C.2.1
  intro Y V a0 x1 a2 H locs ls out hl hH hq
  unfold q_X8_tell at hq
  refine lv_aload_n hx hb dX8_tell_0 rfl (lv_at hl 0 rfl) ?_
  refine lv_aload_n hx hb dX8_tell_1 rfl (lv_at hl 2 rfl) ?_
  obtain ⟨hs_26, hq⟩ := bk_ck_some hq
  refine bk_putr C hH fp_RX8_20 (fun h => by cases h) hs_26 rfl rfl rfl dX8_tell_2 (fun Y_27 H locs e_28 hH => ?_)
  have hq := bk_let_eq e_28 hq
  refine lv_aload_n hx hb dX8_tell_5 rfl (lv_at hl 0 rfl) ?_
  obtain ⟨b_29, hr_30, hq⟩ := bk_bd_some hq
  refine bk_getr C hH fl_RX8_20 (by rw [e_28]; exact hs_26) rfl hr_30 dX8_tell_6 ?_
  obtain ⟨hs_33, hq⟩ := bk_ck_some hq
  obtain ⟨V_32, hr_31, hq⟩ := bk_bd_some hq
  refine bk_callV (rest := []) (As := []) (ro := none) (Y1 := Y_27) (V1 := V_32) C hH hl.1 (c_X5_clear hr_31) mc_X5_clear mv_X5_clear lk_RX8_24 hs_33 rfl rfl ⟨rfl, rfl⟩ ⟨by decide, by decide⟩ rfl (Nat.le_of_ble_eq_true rfl) dX8_tell_9 ⟨by decide, by decide⟩ (fun H locs hH => ?_)
  refine lv_aload_n hx hb dX8_tell_12 rfl (lv_at hl 0 rfl) ?_
  refine lv_iconst (v := 0) hx hb dX8_tell_13 (by decide) ?_
  refine bk_puti C hH fp_RX8_29 (fun h => by cases h) (by rw [e_28]; exact hs_26) rfl dX8_tell_14 (fun V_34 H locs e_35 hH => ?_)
  have hq := bk_let_eq e_35 hq
  refine lv_aload_n hx hb dX8_tell_17 rfl (lv_at hl 0 rfl) ?_
  refine lv_iconst (v := 0) hx hb dX8_tell_18 (by decide) ?_
  refine bk_puti C hH fp_RX8_33 (fun h => by cases h) (by rw [e_28]; exact hs_26) rfl dX8_tell_19 (fun V_36 H locs e_37 hH => ?_)
  have hq := bk_let_eq e_37 hq
  refine lv_aload_n hx hb dX8_tell_22 rfl (lv_at hl 0 rfl) ?_
  refine lv_iconst (v := (-1)) hx hb dX8_tell_23 (by decide) ?_
  refine bk_puti C hH fp_RX8_36 (fun h => by cases h) (by rw [e_28]; exact hs_26) rfl dX8_tell_24 (fun V_38 H locs e_39 hH => ?_)
  have hq := bk_let_eq e_39 hq
  refine lv_aload_n hx hb dX8_tell_27 rfl (lv_at hl 0 rfl) ?_
  obtain ⟨b_40, hr_41, hq⟩ := bk_bd_some hq
  refine bk_getr C hH fl_RX8_14 (by rw [e_28]; exact hs_26) rfl hr_41 dX8_tell_28 ?_
  refine lv_iload_n hx hb dX8_tell_31 rfl (lv_at hl 1 rfl) ?_
  obtain ⟨hs_44, hq⟩ := bk_ck_some hq
  obtain ⟨V_43, hr_42, hq⟩ := bk_bd_some hq
  refine bk_callV (rest := []) (As := [.int x1]) (ro := none) (Y1 := Y_27) (V1 := V_43) C hH hl.1 (c_X9_begin hr_42) mc_X9_begin mv_X9_begin lk_RX8_39 hs_44 rfl rfl ⟨rfl, rfl⟩ ⟨by decide, by decide⟩ rfl (Nat.le_of_ble_eq_true rfl) dX8_tell_32 ⟨by decide, by decide⟩ (fun H locs hH => ?_)
  refine lv_aload_n hx hb dX8_tell_35 rfl (lv_at hl 0 rfl) ?_
  refine bk_getr C hH fl_RX8_14 (by rw [e_28]; exact hs_26) rfl hr_41 dX8_tell_36 ?_
  refine bk_ldcS C (i := 1) (tx := "tube") rfl dX8_tell_39 ?_
  obtain ⟨r_46, hr_45, hq⟩ := bk_bd_some hq
  refine bk_callV (rest := []) (As := [.ref (G.2.2.2.1 1)]) (ro := (some (.int r_46))) (Y1 := Y_27) (V1 := V_43) C hH hl.1 (c_X9_isWord hr_45) mc_X9_isWord mv_X9_isWord lk_RX8_45 hs_44 rfl rfl ⟨rfl, rfl⟩ ⟨by decide, by decide⟩ rfl (Nat.le_of_ble_eq_true rfl) dX8_tell_41 ⟨by decide, by decide⟩ (fun H locs hH => ?_)
  refine lv_if_eq (tgt := 76) hx hb dX8_tell_44 (by decide) (fun hc_57 => ?_) (fun hc_57 => ?_)
  · rw [if_pos hc_57] at hq
    exact w_X8_tell_76 C _ _ _ _ _ _ _ (lv_sub hl [0] rfl) hH hq
  · rw [if_neg hc_57] at hq
    refine lv_aload_n hx hb dX8_tell_47 rfl (lv_at hl 0 rfl) ?_
    refine bk_getr C hH fl_RX8_14 (by rw [e_28]; exact hs_26) rfl hr_41 dX8_tell_48 ?_
    obtain ⟨V_48, hr_47, hq⟩ := bk_bd_some hq
    refine bk_callV (rest := []) (As := []) (ro := none) (Y1 := Y_27) (V1 := V_48) C hH hl.1 (c_X9_step hr_47) mc_X9_step mv_X9_step lk_RX8_49 hs_44 rfl rfl ⟨rfl, rfl⟩ ⟨by decide, by decide⟩ rfl (Nat.le_of_ble_eq_true rfl) dX8_tell_51 ⟨by decide, by decide⟩ (fun H locs hH => ?_)
    refine lv_aload_n hx hb dX8_tell_54 rfl (lv_at hl 0 rfl) ?_
    refine lv_iconst (v := 0) hx hb dX8_tell_55 (by decide) ?_
    obtain ⟨r_50, V_51, hr_49, hq⟩ := bk_bd2_some hq
    refine bk_callV (rest := []) (As := [.int 0]) (ro := (some (.int r_50))) (Y1 := Y_27) (V1 := V_51) C hH hl.1 (c_X8_readSettings hr_49) mc_X8_readSettings mv_X8_readSettings lk_RX8_52 (by rw [e_28]; exact hs_26) rfl rfl ⟨rfl, rfl⟩ ⟨by decide, by decide⟩ rfl (Nat.le_of_ble_eq_true rfl) dX8_tell_56 ⟨by decide, by decide⟩ (fun H locs hH => ?_)
    refine lv_if_eq (tgt := 71) hx hb dX8_tell_59 (by decide) (fun hc_56 => ?_) (fun hc_56 => ?_)
    · rw [if_pos hc_56] at hq
      refine lv_aload_n hx hb dX8_tell_71 rfl (lv_at hl 0 rfl) ?_
      refine bk_geti C hH fl_RX8_33 (by rw [e_28]; exact hs_26) rfl dX8_tell_72 ?_
      cases hq
      exact bk_iret C hH dX8_tell_75
    · rw [if_neg hc_56] at hq
      refine lv_aload_n hx hb dX8_tell_62 rfl (lv_at hl 0 rfl) ?_
      refine lv_bipush (v := 59) hx hb dX8_tell_63 (by decide) ?_
      obtain ⟨r_53, V_54, hr_52, hq⟩ := bk_bd2_some hq
      refine bk_callV (rest := []) (As := [.int 59]) (ro := (some (.int r_53))) (Y1 := Y_27) (V1 := V_54) C hH hl.1 (c_X8_readSign hr_52) mc_X8_readSign mv_X8_readSign lk_RX8_56 (by rw [e_28]; exact hs_26) rfl rfl ⟨rfl, rfl⟩ ⟨by decide, by decide⟩ rfl (Nat.le_of_ble_eq_true rfl) dX8_tell_65 ⟨by decide, by decide⟩ (fun H locs hH => ?_)
      refine lv_if_ne (tgt := 76) hx hb dX8_tell_68 (by decide) (fun hc_55 => ?_) (fun hc_55 => ?_)
      · rw [if_neg hc_55] at hq
        exact w_X8_tell_76 C _ _ _ _ _ _ _ (lv_sub hl [0] rfl) hH hq
      · rw [if_pos hc_55] at hq
        refine lv_aload_n hx hb dX8_tell_71 rfl (lv_at hl 0 rfl) ?_
        refine bk_geti C hH fl_RX8_33 (by rw [e_28]; exact hs_26) rfl dX8_tell_72 ?_
        cases hq
        exact bk_iret C hH dX8_tell_75
set_option maxRecDepth 100000 in
theorem c_X8_tell {l : Launch} {G : bk_G} {N : Nat} {Y : bk_Lay} {V : bk_Val} {a0 : Nat} {x1 : Int32} {a2 : Nat} {out : Int32 × bk_Lay × bk_Val} (hq : q_X8_tell N Y V a0 x1 a2 = some out) : Met l yX8_tell (bk_ws yX8_tell cX8_tell 4 (some FieldType.int)) rm_X8_tell (bk_Pc G [.ref a0, .int x1, .ref a2] Y V) (bk_Q G (some (.int out.1)) out.2.1 out.2.2) 0 0 (bk_A G) :=
  bk_met (by decide) (Nat.le_of_ble_eq_true rfl) (fun p e s m args below meth c ls C hnm hH hl => w_X8_tell C _ _ _ _ _ _ _ _ _ hl hH hq)

def rm_X3_firstStay : Room := bk_rm 5 0 0 113
set_option maxRecDepth 100000 in
set_option maxHeartbeats 4000000 in
theorem w_X3_firstStay_8 (C : bk_C G p s m args meth c cX3_firstStay RX3 3 (some FieldType.int)) : ∀ (n : Nat), ∀ (V : bk_Val) (a0 : Nat) (x1 : Int32) (x2 : Int32) (H : Heap) (locs : List Loc) (ls : Array Slot) (out : Int32 × bk_Val), lv_has ls 3 [(0, .ref a0), (1, .int x1), (2, .int x2)] → bk_H G Y V s.heap H locs → q_X3_firstStay_8 N Y n V a0 x1 x2 = some out → W p l e rm_X3_firstStay s m args below meth c H locs 0 0 (MQ below (bk_Q G (some (.int out.1)) Y out.2) args s 0 0 (bk_A G)) (F0 m 8 ls []) := by
  have hx := C.1
  have hb := C.2.1
  intro n
  induction n with
  | zero =>
    intro V a0 x1 x2 H locs ls out hl hH hq
    exact nomatch (show (none : Option (Int32 × bk_Val)) = some out from hq)
  | succ n ih =>
    intro V a0 x1 x2 H locs ls out hl hH hq
    unfold q_X3_firstStay_8 at hq
    refine lv_iload_n hx hb dX3_firstStay_8 rfl (lv_at hl 2 rfl) ?_
    refine lv_sipush (v := 600) hx hb dX3_firstStay_9 (by decide) ?_
    refine lv_icmp_ge (tgt := 30) hx hb dX3_firstStay_12 (by decide) (fun hc_6 => ?_) (fun hc_6 => ?_)
    · rw [if_pos hc_6] at hq
      refine lv_iload_n hx hb dX3_firstStay_30 rfl (lv_at hl 2 rfl) ?_
      cases hq
      exact bk_iret C hH dX3_firstStay_31
    · rw [if_neg hc_6] at hq
      refine lv_aload_n hx hb dX3_firstStay_15 rfl (lv_at hl 0 rfl) ?_
      refine lv_iload_n hx hb dX3_firstStay_16 rfl (lv_at hl 2 rfl) ?_
      obtain ⟨hs_4, hq⟩ := bk_ck_some hq
      obtain ⟨r_2, V_3, hr_1, hq⟩ := bk_bd2_some hq
      refine bk_callV (rest := []) (As := [.int x2]) (ro := (some (.int r_2))) (Y1 := Y) (V1 := V_3) C hH hl.1 (c_X3_inchIn hr_1) mc_X3_inchIn mv_X3_inchIn lk_RX3_72 hs_4 rfl rfl ⟨rfl, rfl⟩ ⟨by decide, by decide⟩ rfl (Nat.le_of_ble_eq_true rfl) dX3_firstStay_17 ⟨by decide, by decide⟩ (fun H locs hH => ?_)
      refine lv_iload_n hx hb dX3_firstStay_20 rfl (lv_at hl 1 rfl) ?_
      refine lv_icmp_ne (tgt := 30) hx hb dX3_firstStay_21 (by decide) (fun hc_5 => ?_) (fun hc_5 => ?_)
      · rw [if_neg hc_5] at hq
        refine lv_iload_n hx hb dX3_firstStay_30 rfl (lv_at hl 2 rfl) ?_
        cases hq
        exact bk_iret C hH dX3_firstStay_31
      · rw [if_pos hc_5] at hq
        refine lv_iinc (v := (x2 + 1)) (lv' := [(2, .int (x2 + 1)), (0, .ref a0), (1, .int x1)]) hx hb dX3_firstStay_24 hl (k := 2) rfl rfl (by decide) rfl (fun ls hl => ?_)
        refine lv_goto (tgt := 8) hx hb dX3_firstStay_27 (by decide) ?_
        exact ih _ _ _ _ _ _ _ _ (lv_sub hl [1, 2, 0] rfl) hH hq

set_option maxRecDepth 100000 in
set_option maxHeartbeats 4000000 in
theorem w_X3_firstStay (C : bk_C G p s m args meth c cX3_firstStay RX3 3 (some FieldType.int)) : ∀ (V : bk_Val) (a0 : Nat) (H : Heap) (locs : List Loc) (ls : Array Slot) (out : Int32 × bk_Val), lv_has ls 3 [(0, .ref a0)] → bk_H G Y V s.heap H locs → q_X3_firstStay N Y V a0 = some out → W p l e rm_X3_firstStay s m args below meth c H locs 0 0 (MQ below (bk_Q G (some (.int out.1)) Y out.2) args s 0 0 (bk_A G)) (F0 m 0 ls []) := by
  have hx := C.1
  have hb := C.2.1
  intro V a0 H locs ls out hl hH hq
  unfold q_X3_firstStay at hq
  refine lv_aload_n hx hb dX3_firstStay_0 rfl (lv_at hl 0 rfl) ?_
  refine lv_iconst (v := 0) hx hb dX3_firstStay_1 (by decide) ?_
  obtain ⟨hs_10, hq⟩ := bk_ck_some hq
  obtain ⟨r_8, V_9, hr_7, hq⟩ := bk_bd2_some hq
  refine bk_callV (rest := []) (As := [.int 0]) (ro := (some (.int r_8))) (Y1 := Y) (V1 := V_9) C hH hl.1 (c_X3_inchIn hr_7) mc_X3_inchIn mv_X3_inchIn lk_RX3_72 hs_10 rfl rfl ⟨rfl, rfl⟩ ⟨by decide, by decide⟩ rfl (Nat.le_of_ble_eq_true rfl) dX3_firstStay_2 ⟨by decide, by decide⟩ (fun H locs hH => ?_)
  refine lv_istore_n (lv' := [(1, .int r_8), (0, .ref a0)]) hx hb dX3_firstStay_5 rfl hl (by decide) rfl (fun ls hl => ?_)
  refine lv_iconst (v := 1) hx hb dX3_firstStay_6 (by decide) ?_
  refine lv_istore_n (lv' := [(2, .int 1), (1, .int r_8), (0, .ref a0)]) hx hb dX3_firstStay_7 rfl hl (by decide) rfl (fun ls hl => ?_)
  exact w_X3_firstStay_8 C _ _ _ _ _ _ _ _ _ (lv_sub hl [2, 1, 0] rfl) hH hq
set_option maxRecDepth 100000 in
theorem c_X3_firstStay {l : Launch} {G : bk_G} {N : Nat} {Y : bk_Lay} {V : bk_Val} {a0 : Nat} {out : Int32 × bk_Val} (hq : q_X3_firstStay N Y V a0 = some out) : Met l yX3_firstStay (bk_ws yX3_firstStay cX3_firstStay 3 (some FieldType.int)) rm_X3_firstStay (bk_Pc G [.ref a0] Y V) (bk_Q G (some (.int out.1)) Y out.2) 0 0 (bk_A G) :=
  bk_met (by decide) (Nat.le_of_ble_eq_true rfl) (fun p e s m args below meth c ls C hnm hH hl => w_X3_firstStay C _ _ _ _ _ _ hl hH hq)

def rm_X0_raiseOuter : Room := bk_rm 1 0 0 23
set_option maxRecDepth 100000 in
set_option maxHeartbeats 4000000 in
theorem w_X0_raiseOuter (C : bk_C G p s m args meth c cX0_raiseOuter RX0 3 (none : Option FieldType)) : ∀ (V : bk_Val) (a0 : Nat) (x1 : Int32) (H : Heap) (locs : List Loc) (ls : Array Slot) (out : bk_Val), lv_has ls 3 [(0, .ref a0), (1, .int x1)] → bk_H G Y V s.heap H locs → q_X0_raiseOuter N Y V a0 x1 = some out → W p l e rm_X0_raiseOuter s m args below meth c H locs 0 0 (MQ below (bk_Q G none Y out) args s 0 0 (bk_A G)) (F0 m 0 ls []) := by
  have hx := C.1
  have hb := C.2.1
  intro V a0 x1 H locs ls out hl hH hq
  unfold q_X0_raiseOuter at hq
  refine lv_iconst (v := 4) hx hb dX0_raiseOuter_0 (by decide) ?_
  refine lv_iload_n hx hb dX0_raiseOuter_1 rfl (lv_at hl 1 rfl) ?_
  refine lv_imul hx hb dX0_raiseOuter_2 ?_
  refine lv_iconst (v := 0) hx hb dX0_raiseOuter_3 (by decide) ?_
  refine lv_iadd hx hb dX0_raiseOuter_4 ?_
  refine lv_istore_n (lv' := [(2, .int ((4 * x1) + 0)), (0, .ref a0), (1, .int x1)]) hx hb dX0_raiseOuter_5 rfl hl (by decide) rfl (fun ls hl => ?_)
  refine lv_iload_n hx hb dX0_raiseOuter_6 rfl (lv_at hl 0 rfl) ?_
  refine lv_if_lt (tgt := 32) hx hb dX0_raiseOuter_7 (by decide) (fun hc_9 => ?_) (fun hc_9 => ?_)
  · rw [if_pos hc_9] at hq
    cases hq
    exact bk_vret C hH dX0_raiseOuter_32
  · rw [if_neg hc_9] at hq
    refine lv_iload_n hx hb dX0_raiseOuter_10 rfl (lv_at hl 0 rfl) ?_
    refine lv_aload_n hx hb dX0_raiseOuter_11 rfl (lv_at hl 1 rfl) ?_
    obtain ⟨ha_1, hq⟩ := bk_ck_some hq
    refine bk_alen C hH (bk_arr ha_1) (by decide) dX0_raiseOuter_12 ?_
    refine lv_icmp_ge (tgt := 32) hx hb dX0_raiseOuter_13 (by decide) (fun hc_8 => ?_) (fun hc_8 => ?_)
    · rw [if_pos hc_8] at hq
      cases hq
      exact bk_vret C hH dX0_raiseOuter_32
    · rw [if_neg hc_8] at hq
      refine lv_aload_n hx hb dX0_raiseOuter_16 rfl (lv_at hl 1 rfl) ?_
      refine lv_iload_n hx hb dX0_raiseOuter_17 rfl (lv_at hl 0 rfl) ?_
      refine bk_ldc2 C kl_RX0_27 dX0_raiseOuter_18 ?_
      refine lv_aload_n hx hb dX0_raiseOuter_21 rfl (lv_at hl 1 rfl) ?_
      refine lv_iload_n hx hb dX0_raiseOuter_22 rfl (lv_at hl 0 rfl) ?_
      obtain ⟨hi_2, hq⟩ := bk_ck_some hq
      refine bk_lald C hH (bk_arr ha_1) (bk_in_vp hi_2) dX0_raiseOuter_23 ?_
      refine lv_lmul hx hb dX0_raiseOuter_24 ?_
      refine bk_ldc2 C kl_RX0_29 dX0_raiseOuter_25 ?_
      obtain ⟨r_4, hr_3, hq⟩ := bk_bd_some hq
      refine bk_callS (rest := [.int ((4 * x1) + 0), .ref a0]) (As := [.long (10 * (bk_rL V a0 ((4 * x1) + 0).toNatClampNeg)), .long 1000000000000000]) (ro := (some (.long r_4))) (Y1 := Y) (V1 := V) C hH hl.1 (c_J9_min_f86c9 hr_3) mc_J9_min_f86c9 st_J9_min_f86c9 lk_RX0_31 rfl ⟨rfl, rfl⟩ ⟨by decide, by decide⟩ rfl (Nat.le_of_ble_eq_true rfl) dX0_raiseOuter_28 ⟨by decide, by decide⟩ (fun H locs hH => ?_)
      obtain ⟨hi_5, hq⟩ := bk_ck_some hq
      refine bk_last C hH (bk_arr ha_1) (bk_in_vp hi_5) dX0_raiseOuter_31 (fun V_6 H locs e_7 hH => ?_)
      have hq := bk_let_eq e_7 hq
      cases hq
      exact bk_vret C hH dX0_raiseOuter_32
set_option maxRecDepth 100000 in
theorem c_X0_raiseOuter {l : Launch} {G : bk_G} {N : Nat} {Y : bk_Lay} {V : bk_Val} {a0 : Nat} {x1 : Int32} {out : bk_Val} (hq : q_X0_raiseOuter N Y V a0 x1 = some out) : Met l yX0_raiseOuter (bk_ws yX0_raiseOuter cX0_raiseOuter 3 (none : Option FieldType)) rm_X0_raiseOuter (bk_Pc G [.ref a0, .int x1] Y V) (bk_Q G none Y out) 0 0 (bk_A G) :=
  bk_met (by decide) (Nat.le_of_ble_eq_true rfl) (fun p e s m args below meth c ls C hnm hH hl => w_X0_raiseOuter C _ _ _ _ _ _ _ hl hH hq)

def rm_X5_glueForAll : Room := bk_rm 6 0 0 138
set_option maxRecDepth 100000 in
set_option maxHeartbeats 4000000 in
theorem w_X5_glueForAll_55 (C : bk_C G p s m args meth c cX5_glueForAll RX5 8 (some FieldType.int)) (k6 : bk_Val → Nat → Int32 → Int32 → Int32 → Int32 → Int32 → Int32 → Option (Int32 × bk_Val)) (i6 : ∀ (V : bk_Val) (a0 : Nat) (x1 : Int32) (x2 : Int32) (x3 : Int32) (x4 : Int32) (x5 : Int32) (x6 : Int32) (H : Heap) (locs : List Loc) (ls : Array Slot) (out : Int32 × bk_Val), lv_has ls 8 [(0, .ref a0), (1, .int x1), (2, .int x2), (3, .int x3), (4, .int x4), (5, .int x5), (6, .int x6)] → bk_H G Y V s.heap H locs → k6 V a0 x1 x2 x3 x4 x5 x6 = some out → W p l e rm_X5_glueForAll s m args below meth c H locs 0 0 (MQ below (bk_Q G (some (.int out.1)) Y out.2) args s 0 0 (bk_A G)) (F0 m 6 ls [])) : ∀ (V : bk_Val) (a0 : Nat) (x1 : Int32) (x2 : Int32) (x3 : Int32) (x4 : Int32) (x5 : Int32) (x6 : Int32) (H : Heap) (locs : List Loc) (ls : Array Slot) (out : Int32 × bk_Val), lv_has ls 8 [(0, .ref a0), (1, .int x1), (2, .int x2), (3, .int x3), (4, .int x4), (5, .int x5), (6, .int x6)] → bk_H G Y V s.heap H locs → q_X5_glueForAll_55 N Y k6 V a0 x1 x2 x3 x4 x5 x6 = some out → W p l e rm_X5_glueForAll s m args below meth c H locs 0 0 (MQ below (bk_Q G (some (.int out.1)) Y out.2) args s 0 0 (bk_A G)) (F0 m 55 ls []) := by
  have hx := C.1
  have hb := C.2.1
  intro V a0 x1 x2 x3 x4 x5 x6 H locs ls out hl hH hq
  unfold q_X5_glueForAll_55 at hq
  refine lv_iinc (v := (x6 + 1)) (lv' := [(6, .int (x6 + 1)), (0, .ref a0), (1, .int x1), (2, .int x2), (3, .int x3), (4, .int x4), (5, .int x5)]) hx hb dX5_glueForAll_55 hl (k := 6) rfl rfl (by decide) rfl (fun ls hl => ?_)
  refine lv_goto (tgt := 6) hx hb dX5_glueForAll_58 (by decide) ?_
  exact i6 _ _ _ _ _ _ _ _ _ _ _ _ (lv_sub hl [1, 2, 3, 4, 5, 6, 0] rfl) hH hq

set_option maxRecDepth 100000 in
set_option maxHeartbeats 4000000 in
theorem w_X5_glueForAll_6 (C : bk_C G p s m args meth c cX5_glueForAll RX5 8 (some FieldType.int)) : ∀ (n : Nat), ∀ (V : bk_Val) (a0 : Nat) (x1 : Int32) (x2 : Int32) (x3 : Int32) (x4 : Int32) (x5 : Int32) (x6 : Int32) (H : Heap) (locs : List Loc) (ls : Array Slot) (out : Int32 × bk_Val), lv_has ls 8 [(0, .ref a0), (1, .int x1), (2, .int x2), (3, .int x3), (4, .int x4), (5, .int x5), (6, .int x6)] → bk_H G Y V s.heap H locs → q_X5_glueForAll_6 N Y n V a0 x1 x2 x3 x4 x5 x6 = some out → W p l e rm_X5_glueForAll s m args below meth c H locs 0 0 (MQ below (bk_Q G (some (.int out.1)) Y out.2) args s 0 0 (bk_A G)) (F0 m 6 ls []) := by
  have hx := C.1
  have hb := C.2.1
  intro n
  induction n with
  | zero =>
    intro V a0 x1 x2 x3 x4 x5 x6 H locs ls out hl hH hq
    exact nomatch (show (none : Option (Int32 × bk_Val)) = some out from hq)
  | succ n ih =>
    intro V a0 x1 x2 x3 x4 x5 x6 H locs ls out hl hH hq
    unfold q_X5_glueForAll_6 at hq
    refine lv_iload hx hb dX5_glueForAll_6 (lv_at hl 6 rfl) ?_
    refine lv_aload_n hx hb dX5_glueForAll_8 rfl (lv_at hl 0 rfl) ?_
    obtain ⟨hs_1, hq⟩ := bk_ck_some hq
    obtain ⟨b_2, hr_3, hq⟩ := bk_bd_some hq
    refine bk_getr C hH fl_RX5_21 hs_1 rfl hr_3 dX5_glueForAll_9 ?_
    obtain ⟨hs_4, hq⟩ := bk_ck_some hq
    refine bk_geti C hH fl_RX5_55 hs_4 rfl dX5_glueForAll_12 ?_
    refine lv_icmp_ge (tgt := 61) hx hb dX5_glueForAll_15 (by decide) (fun hc_10 => ?_) (fun hc_10 => ?_)
    · rw [if_pos hc_10] at hq
      refine lv_iload hx hb dX5_glueForAll_61 (lv_at hl 5 rfl) ?_
      cases hq
      exact bk_iret C hH dX5_glueForAll_63
    · rw [if_neg hc_10] at hq
      refine lv_iload_n hx hb dX5_glueForAll_18 rfl (lv_at hl 1 rfl) ?_
      refine lv_iload hx hb dX5_glueForAll_19 (lv_at hl 6 rfl) ?_
      refine bk_ishr hx hb dX5_glueForAll_21 ?_
      refine lv_iconst (v := 1) hx hb dX5_glueForAll_22 (by decide) ?_
      refine lv_iand hx hb dX5_glueForAll_23 ?_
      refine lv_iconst (v := 1) hx hb dX5_glueForAll_24 (by decide) ?_
      refine lv_icmp_ne (tgt := 55) hx hb dX5_glueForAll_25 (by decide) (fun hc_9 => ?_) (fun hc_9 => ?_)
      · rw [if_neg hc_9] at hq
        exact w_X5_glueForAll_55 C _ ih _ _ _ _ _ _ _ _ _ _ _ _ (lv_sub hl [0, 1, 2, 3, 4, 5, 6] rfl) hH hq
      · rw [if_pos hc_9] at hq
        refine lv_aload_n hx hb dX5_glueForAll_28 rfl (lv_at hl 0 rfl) ?_
        refine lv_iload hx hb dX5_glueForAll_29 (lv_at hl 6 rfl) ?_
        refine lv_iload_n hx hb dX5_glueForAll_31 rfl (lv_at hl 2 rfl) ?_
        refine lv_iload_n hx hb dX5_glueForAll_32 rfl (lv_at hl 3 rfl) ?_
        refine lv_iload hx hb dX5_glueForAll_33 (lv_at hl 4 rfl) ?_
        obtain ⟨r_6, V_7, hr_5, hq⟩ := bk_bd2_some hq
        refine bk_callV (rest := []) (As := [.int x6, .int x2, .int x3, .int x4]) (ro := (some (.int r_6))) (Y1 := Y) (V1 := V_7) C hH hl.1 (c_X5_glueFor hr_5) mc_X5_glueFor mv_X5_glueFor lk_RX5_145 hs_1 rfl rfl ⟨rfl, rfl⟩ ⟨by decide, by decide⟩ rfl (Nat.le_of_ble_eq_true rfl) dX5_glueForAll_35 ⟨by decide, by decide⟩ (fun H locs hH => ?_)
        refine lv_istore (lv' := [(7, .int r_6), (0, .ref a0), (1, .int x1), (2, .int x2), (3, .int x3), (4, .int x4), (5, .int x5), (6, .int x6)]) hx hb dX5_glueForAll_38 hl (by decide) rfl (fun ls hl => ?_)
        refine lv_iload hx hb dX5_glueForAll_40 (lv_at hl 0 rfl) ?_
        refine lv_iconst (v := (-1)) hx hb dX5_glueForAll_42 (by decide) ?_
        refine lv_icmp_ne (tgt := 48) hx hb dX5_glueForAll_43 (by decide) (fun hc_8 => ?_) (fun hc_8 => ?_)
        · rw [if_neg hc_8] at hq
          refine lv_iload hx hb dX5_glueForAll_48 (lv_at hl 6 rfl) ?_
          refine lv_iload hx hb dX5_glueForAll_50 (lv_at hl 0 rfl) ?_
          refine lv_iadd hx hb dX5_glueForAll_52 ?_
          refine lv_istore (lv' := [(5, .int (x5 + r_6)), (7, .int r_6), (0, .ref a0), (1, .int x1), (2, .int x2), (3, .int x3), (4, .int x4), (6, .int x6)]) hx hb dX5_glueForAll_53 hl (by decide) rfl (fun ls hl => ?_)
          exact w_X5_glueForAll_55 C _ ih _ _ _ _ _ _ _ _ _ _ _ _ (lv_sub hl [2, 3, 4, 5, 6, 0, 7] rfl) hH hq
        · rw [if_pos hc_8] at hq
          refine lv_iconst (v := (-1)) hx hb dX5_glueForAll_46 (by decide) ?_
          cases hq
          exact bk_iret C hH dX5_glueForAll_47

set_option maxRecDepth 100000 in
set_option maxHeartbeats 4000000 in
theorem w_X5_glueForAll (C : bk_C G p s m args meth c cX5_glueForAll RX5 8 (some FieldType.int)) : ∀ (V : bk_Val) (a0 : Nat) (x1 : Int32) (x2 : Int32) (x3 : Int32) (x4 : Int32) (H : Heap) (locs : List Loc) (ls : Array Slot) (out : Int32 × bk_Val), lv_has ls 8 [(0, .ref a0), (1, .int x1), (2, .int x2), (3, .int x3), (4, .int x4)] → bk_H G Y V s.heap H locs → q_X5_glueForAll N Y V a0 x1 x2 x3 x4 = some out → W p l e rm_X5_glueForAll s m args below meth c H locs 0 0 (MQ below (bk_Q G (some (.int out.1)) Y out.2) args s 0 0 (bk_A G)) (F0 m 0 ls []) := by
  have hx := C.1
  have hb := C.2.1
  intro V a0 x1 x2 x3 x4 H locs ls out hl hH hq
  unfold q_X5_glueForAll at hq
  refine lv_iconst (v := 0) hx hb dX5_glueForAll_0 (by decide) ?_
  refine lv_istore (lv' := [(5, .int 0), (0, .ref a0), (1, .int x1), (2, .int x2), (3, .int x3), (4, .int x4)]) hx hb dX5_glueForAll_1 hl (by decide) rfl (fun ls hl => ?_)
  refine lv_iconst (v := 0) hx hb dX5_glueForAll_3 (by decide) ?_
  refine lv_istore (lv' := [(6, .int 0), (5, .int 0), (0, .ref a0), (1, .int x1), (2, .int x2), (3, .int x3), (4, .int x4)]) hx hb dX5_glueForAll_4 hl (by decide) rfl (fun ls hl => ?_)
  exact w_X5_glueForAll_6 C _ _ _ _ _ _ _ _ _ _ _ _ _ (lv_sub hl [2, 3, 4, 5, 6, 1, 0] rfl) hH hq
set_option maxRecDepth 100000 in
theorem c_X5_glueForAll {l : Launch} {G : bk_G} {N : Nat} {Y : bk_Lay} {V : bk_Val} {a0 : Nat} {x1 : Int32} {x2 : Int32} {x3 : Int32} {x4 : Int32} {out : Int32 × bk_Val} (hq : q_X5_glueForAll N Y V a0 x1 x2 x3 x4 = some out) : Met l yX5_glueForAll (bk_ws yX5_glueForAll cX5_glueForAll 8 (some FieldType.int)) rm_X5_glueForAll (bk_Pc G [.ref a0, .int x1, .int x2, .int x3, .int x4] Y V) (bk_Q G (some (.int out.1)) Y out.2) 0 0 (bk_A G) :=
  bk_met (by decide) (Nat.le_of_ble_eq_true rfl) (fun p e s m args below meth c ls C hnm hH hl => w_X5_glueForAll C _ _ _ _ _ _ _ _ _ _ hl hH hq)
end
