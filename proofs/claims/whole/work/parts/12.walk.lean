section
variable {p : Program} {l : Launch} {e : Env} {s : State} {m : MethodId} {args : Array Value} {below : List Frame} {meth : Method} {c : Code} {G : bk_G} {N : Nat} {Y : bk_Lay}
def rm_X12_isLetter : Room := bk_rm 0 0 0 0
set_option maxRecDepth 100000 in
set_option maxHeartbeats 4000000 in
theorem w_X12_isLetter (C : bk_C G p s m args meth c cX12_isLetter RX12 1 (some FieldType.boolean)) : ∀ (V : bk_Val) (x0 : Int32) (H : Heap) (locs : List Loc) (ls : Array Slot) (out : Int32), lv_has ls 1 [(0, .int x0)] → bk_H G Y V s.heap H locs → q_X12_isLetter N Y V x0 = some out → W p l e rm_X12_isLetter s m args below meth c H locs 0 0 (MQ below (bk_Q G (some (.int out)) Y V) args s 0 0 (bk_A G)) (F0 m 0 ls []) := by
  have hx := C.1
  have hb := C.2.1
  intro V x0 H locs ls out hl hH hq
  unfold q_X12_isLetter at hq
  refine lv_iload_n hx hb dX12_isLetter_0 rfl (lv_at hl 0 rfl) ?_
  refine lv_bipush (v := 97) hx hb dX12_isLetter_1 (by decide) ?_
  refine lv_icmp_lt (tgt := 16) hx hb dX12_isLetter_3 (by decide) (fun hc_2 => ?_) (fun hc_2 => ?_)
  · rw [if_pos hc_2] at hq
    refine lv_iconst (v := 0) hx hb dX12_isLetter_16 (by decide) ?_
    cases hq
    exact bk_zret C hH (Or.inl rfl) dX12_isLetter_17
  · rw [if_neg hc_2] at hq
    refine lv_iload_n hx hb dX12_isLetter_6 rfl (lv_at hl 0 rfl) ?_
    refine lv_bipush (v := 122) hx hb dX12_isLetter_7 (by decide) ?_
    refine lv_icmp_gt (tgt := 16) hx hb dX12_isLetter_9 (by decide) (fun hc_1 => ?_) (fun hc_1 => ?_)
    · rw [if_pos hc_1] at hq
      refine lv_iconst (v := 0) hx hb dX12_isLetter_16 (by decide) ?_
      cases hq
      exact bk_zret C hH (Or.inl rfl) dX12_isLetter_17
    · rw [if_neg hc_1] at hq
      refine lv_iconst (v := 1) hx hb dX12_isLetter_12 (by decide) ?_
      refine lv_goto (tgt := 17) hx hb dX12_isLetter_13 (by decide) ?_
      cases hq
      exact bk_zret C hH (Or.inr rfl) dX12_isLetter_17
set_option maxRecDepth 100000 in
theorem c_X12_isLetter {l : Launch} {G : bk_G} {N : Nat} {Y : bk_Lay} {V : bk_Val} {x0 : Int32} {out : Int32} (hq : q_X12_isLetter N Y V x0 = some out) : Met l yX12_isLetter (bk_ws yX12_isLetter cX12_isLetter 1 (some FieldType.boolean)) rm_X12_isLetter (bk_Pc G [.int x0] Y V) (bk_Q G (some (.int out)) Y V) 0 0 (bk_A G) :=
  bk_met (by decide) (Nat.le_of_ble_eq_true rfl) (fun p e s m args below meth c ls C hnm hH hl => w_X12_isLetter C _ _ _ _ _ _ hl hH hq)

def rm_X12_lays : Room := bk_rm 0 0 0 0
set_option maxRecDepth 100000 in
set_option maxHeartbeats 4000000 in
theorem w_X12_lays_3 (C : bk_C G p s m args meth c cX12_lays RX12 3 (none : Option FieldType)) : ∀ (n : Nat), ∀ (V : bk_Val) (a0 : Nat) (x1 : Int32) (x2 : Int32) (H : Heap) (locs : List Loc) (ls : Array Slot) (out : bk_Val), lv_has ls 3 [(0, .ref a0), (1, .int x1), (2, .int x2)] → bk_H G Y V s.heap H locs → q_X12_lays_3 N Y n V a0 x1 x2 = some out → W p l e rm_X12_lays s m args below meth c H locs 0 0 (MQ below (bk_Q G none Y out) args s 0 0 (bk_A G)) (F0 m 3 ls []) := by
  have hx := C.1
  have hb := C.2.1
  intro n
  induction n with
  | zero =>
    intro V a0 x1 x2 H locs ls out hl hH hq
    exact nomatch (show (none : Option (bk_Val)) = some out from hq)
  | succ n ih =>
    intro V a0 x1 x2 H locs ls out hl hH hq
    unfold q_X12_lays_3 at hq
    refine lv_iload_n hx hb dX12_lays_3 rfl (lv_at hl 2 rfl) ?_
    refine lv_if_lt (tgt := 39) hx hb dX12_lays_4 (by decide) (fun hc_10 => ?_) (fun hc_10 => ?_)
    · rw [if_pos hc_10] at hq
      cases hq
      exact bk_vret C hH dX12_lays_39
    · rw [if_neg hc_10] at hq
      refine lv_aload_n hx hb dX12_lays_7 rfl (lv_at hl 0 rfl) ?_
      obtain ⟨hs_1, hq⟩ := bk_ck_some hq
      obtain ⟨b_2, hr_3, hq⟩ := bk_bd_some hq
      refine bk_getr C hH fl_RX12_53 hs_1 rfl hr_3 dX12_lays_8 ?_
      refine lv_aload_n hx hb dX12_lays_11 rfl (lv_at hl 0 rfl) ?_
      refine bk_geti C hH fl_RX12_130 hs_1 rfl dX12_lays_12 ?_
      refine lv_iload_n hx hb dX12_lays_15 rfl (lv_at hl 1 rfl) ?_
      refine lv_iload_n hx hb dX12_lays_16 rfl (lv_at hl 2 rfl) ?_
      refine bk_ishr hx hb dX12_lays_17 ?_
      refine lv_sipush (v := 255) hx hb dX12_lays_18 (by decide) ?_
      refine lv_iand hx hb dX12_lays_21 ?_
      obtain ⟨ha_4, hq⟩ := bk_ck_some hq
      obtain ⟨hi_5, hq⟩ := bk_ck_some hq
      refine bk_iast C hH (bk_arr ha_4) (bk_in_vp hi_5) dX12_lays_22 (fun V_6 H locs e_7 hH => ?_)
      have hq := bk_let_eq e_7 hq
      refine lv_aload_n hx hb dX12_lays_23 rfl (lv_at hl 0 rfl) ?_
      refine lv_dup hx hb dX12_lays_24 rfl ?_
      refine bk_geti C hH fl_RX12_130 hs_1 rfl dX12_lays_25 ?_
      refine lv_iconst (v := 1) hx hb dX12_lays_28 (by decide) ?_
      refine lv_iadd hx hb dX12_lays_29 ?_
      refine bk_puti C hH fp_RX12_130 (fun h => by cases h) hs_1 rfl dX12_lays_30 (fun V_8 H locs e_9 hH => ?_)
      have hq := bk_let_eq e_9 hq
      refine lv_iinc (v := (x2 + (-8))) (lv' := [(2, .int (x2 + (-8))), (0, .ref a0), (1, .int x1)]) hx hb dX12_lays_33 hl (k := 2) rfl rfl (by decide) rfl (fun ls hl => ?_)
      refine lv_goto (tgt := 3) hx hb dX12_lays_36 (by decide) ?_
      exact ih _ _ _ _ _ _ _ _ (lv_sub hl [1, 2, 0] rfl) hH hq

set_option maxRecDepth 100000 in
set_option maxHeartbeats 4000000 in
theorem w_X12_lays (C : bk_C G p s m args meth c cX12_lays RX12 3 (none : Option FieldType)) : ∀ (V : bk_Val) (a0 : Nat) (x1 : Int32) (H : Heap) (locs : List Loc) (ls : Array Slot) (out : bk_Val), lv_has ls 3 [(0, .ref a0), (1, .int x1)] → bk_H G Y V s.heap H locs → q_X12_lays N Y V a0 x1 = some out → W p l e rm_X12_lays s m args below meth c H locs 0 0 (MQ below (bk_Q G none Y out) args s 0 0 (bk_A G)) (F0 m 0 ls []) := by
  have hx := C.1
  have hb := C.2.1
  intro V a0 x1 H locs ls out hl hH hq
  unfold q_X12_lays at hq
  refine lv_bipush (v := 24) hx hb dX12_lays_0 (by decide) ?_
  refine lv_istore_n (lv' := [(2, .int 24), (0, .ref a0), (1, .int x1)]) hx hb dX12_lays_2 rfl hl (by decide) rfl (fun ls hl => ?_)
  exact w_X12_lays_3 C _ _ _ _ _ _ _ _ _ (lv_sub hl [1, 2, 0] rfl) hH hq
set_option maxRecDepth 100000 in
theorem c_X12_lays {l : Launch} {G : bk_G} {N : Nat} {Y : bk_Lay} {V : bk_Val} {a0 : Nat} {x1 : Int32} {out : bk_Val} (hq : q_X12_lays N Y V a0 x1 = some out) : Met l yX12_lays (bk_ws yX12_lays cX12_lays 3 (none : Option FieldType)) rm_X12_lays (bk_Pc G [.ref a0, .int x1] Y V) (bk_Q G none Y out) 0 0 (bk_A G) :=
  bk_met (by decide) (Nat.le_of_ble_eq_true rfl) (fun p e s m args below meth c ls C hnm hH hl => w_X12_lays C _ _ _ _ _ _ _ hl hH hq)

def rm_X12_wrong : Room := bk_rm 0 0 0 0
set_option maxRecDepth 100000 in
set_option maxHeartbeats 4000000 in
theorem w_X12_wrong (C : bk_C G p s m args meth c cX12_wrong RX12 2 (none : Option FieldType)) : ∀ (V : bk_Val) (a0 : Nat) (x1 : Int32) (H : Heap) (locs : List Loc) (ls : Array Slot) (out : bk_Val), lv_has ls 2 [(0, .ref a0), (1, .int x1)] → bk_H G Y V s.heap H locs → q_X12_wrong N Y V a0 x1 = some out → W p l e rm_X12_wrong s m args below meth c H locs 0 0 (MQ below (bk_Q G none Y out) args s 0 0 (bk_A G)) (F0 m 0 ls []) := by
  have hx := C.1
  have hb := C.2.1
  intro V a0 x1 H locs ls out hl hH hq
  unfold q_X12_wrong at hq
  refine lv_aload_n hx hb dX12_wrong_0 rfl (lv_at hl 0 rfl) ?_
  obtain ⟨hs_1, hq⟩ := bk_ck_some hq
  refine bk_geti C hH fl_RX12_183 hs_1 rfl dX12_wrong_1 ?_
  refine lv_if_eq (tgt := 8) hx hb dX12_wrong_4 (by decide) (fun hc_6 => ?_) (fun hc_6 => ?_)
  · rw [if_pos hc_6] at hq
    refine lv_aload_n hx hb dX12_wrong_8 rfl (lv_at hl 0 rfl) ?_
    refine lv_iload_n hx hb dX12_wrong_9 rfl (lv_at hl 1 rfl) ?_
    refine bk_puti C hH fp_RX12_183 (fun h => by cases h) hs_1 rfl dX12_wrong_10 (fun V_2 H locs e_3 hH => ?_)
    have hq := bk_let_eq e_3 hq
    refine lv_aload_n hx hb dX12_wrong_13 rfl (lv_at hl 0 rfl) ?_
    refine lv_aload_n hx hb dX12_wrong_14 rfl (lv_at hl 0 rfl) ?_
    refine bk_geti C hH fl_RX12_147 hs_1 rfl dX12_wrong_15 ?_
    refine bk_puti C hH fp_RX12_56 (fun h => by cases h) hs_1 rfl dX12_wrong_18 (fun V_4 H locs e_5 hH => ?_)
    have hq := bk_let_eq e_5 hq
    cases hq
    exact bk_vret C hH dX12_wrong_21
  · rw [if_neg hc_6] at hq
    cases hq
    exact bk_vret C hH dX12_wrong_7
set_option maxRecDepth 100000 in
theorem c_X12_wrong {l : Launch} {G : bk_G} {N : Nat} {Y : bk_Lay} {V : bk_Val} {a0 : Nat} {x1 : Int32} {out : bk_Val} (hq : q_X12_wrong N Y V a0 x1 = some out) : Met l yX12_wrong (bk_ws yX12_wrong cX12_wrong 2 (none : Option FieldType)) rm_X12_wrong (bk_Pc G [.ref a0, .int x1] Y V) (bk_Q G none Y out) 0 0 (bk_A G) :=
  bk_met (by decide) (Nat.le_of_ble_eq_true rfl) (fun p e s m args below meth c ls C hnm hH hl => w_X12_wrong C _ _ _ _ _ _ _ hl hH hq)

def rm_X12_isLeaking : Room := bk_rm 0 0 0 0
set_option maxRecDepth 100000 in
set_option maxHeartbeats 4000000 in
theorem w_X12_isLeaking (C : bk_C G p s m args meth c cX12_isLeaking RX12 3 (some FieldType.boolean)) : ∀ (V : bk_Val) (a0 : Nat) (x1 : Int32) (x2 : Int32) (H : Heap) (locs : List Loc) (ls : Array Slot) (out : Int32), lv_has ls 3 [(0, .ref a0), (1, .int x1), (2, .int x2)] → bk_H G Y V s.heap H locs → q_X12_isLeaking N Y V a0 x1 x2 = some out → W p l e rm_X12_isLeaking s m args below meth c H locs 0 0 (MQ below (bk_Q G (some (.int out)) Y V) args s 0 0 (bk_A G)) (F0 m 0 ls []) := by
  have hx := C.1
  have hb := C.2.1
  intro V a0 x1 x2 H locs ls out hl hH hq
  unfold q_X12_isLeaking at hq
  refine lv_aload_n hx hb dX12_isLeaking_0 rfl (lv_at hl 0 rfl) ?_
  obtain ⟨hs_1, hq⟩ := bk_ck_some hq
  refine bk_geti C hH fl_RX12_368 hs_1 rfl dX12_isLeaking_1 ?_
  refine lv_iload_n hx hb dX12_isLeaking_4 rfl (lv_at hl 1 rfl) ?_
  refine bk_ishr hx hb dX12_isLeaking_5 ?_
  refine lv_iconst (v := 1) hx hb dX12_isLeaking_6 (by decide) ?_
  refine lv_iand hx hb dX12_isLeaking_7 ?_
  refine lv_if_ne (tgt := 32) hx hb dX12_isLeaking_8 (by decide) (fun hc_8 => ?_) (fun hc_8 => ?_)
  · rw [if_neg hc_8] at hq
    refine lv_iconst (v := 0) hx hb dX12_isLeaking_32 (by decide) ?_
    cases hq
    exact bk_zret C hH (Or.inl rfl) dX12_isLeaking_33
  · rw [if_pos hc_8] at hq
    refine lv_iload_n hx hb dX12_isLeaking_11 rfl (lv_at hl 2 rfl) ?_
    refine lv_if_ne (tgt := 28) hx hb dX12_isLeaking_12 (by decide) (fun hc_7 => ?_) (fun hc_7 => ?_)
    · rw [if_neg hc_7] at hq
      refine lv_iconst (v := 1) hx hb dX12_isLeaking_28 (by decide) ?_
      refine lv_goto (tgt := 33) hx hb dX12_isLeaking_29 (by decide) ?_
      cases hq
      exact bk_zret C hH (Or.inr rfl) dX12_isLeaking_33
    · rw [if_pos hc_7] at hq
      refine lv_aload_n hx hb dX12_isLeaking_15 rfl (lv_at hl 0 rfl) ?_
      obtain ⟨b_2, hr_3, hq⟩ := bk_bd_some hq
      refine bk_getr C hH fl_RX12_37 hs_1 rfl hr_3 dX12_isLeaking_16 ?_
      refine lv_iconst (v := 4) hx hb dX12_isLeaking_19 (by decide) ?_
      refine lv_iload_n hx hb dX12_isLeaking_20 rfl (lv_at hl 1 rfl) ?_
      refine lv_imul hx hb dX12_isLeaking_21 ?_
      refine lv_iconst (v := 3) hx hb dX12_isLeaking_22 (by decide) ?_
      refine lv_iadd hx hb dX12_isLeaking_23 ?_
      obtain ⟨ha_4, hq⟩ := bk_ck_some hq
      obtain ⟨hi_5, hq⟩ := bk_ck_some hq
      refine bk_iald C hH (bk_arr ha_4) (bk_in_vp hi_5) dX12_isLeaking_24 ?_
      refine lv_if_ne (tgt := 32) hx hb dX12_isLeaking_25 (by decide) (fun hc_6 => ?_) (fun hc_6 => ?_)
      · rw [if_neg hc_6] at hq
        refine lv_iconst (v := 0) hx hb dX12_isLeaking_32 (by decide) ?_
        cases hq
        exact bk_zret C hH (Or.inl rfl) dX12_isLeaking_33
      · rw [if_pos hc_6] at hq
        refine lv_iconst (v := 1) hx hb dX12_isLeaking_28 (by decide) ?_
        refine lv_goto (tgt := 33) hx hb dX12_isLeaking_29 (by decide) ?_
        cases hq
        exact bk_zret C hH (Or.inr rfl) dX12_isLeaking_33
set_option maxRecDepth 100000 in
theorem c_X12_isLeaking {l : Launch} {G : bk_G} {N : Nat} {Y : bk_Lay} {V : bk_Val} {a0 : Nat} {x1 : Int32} {x2 : Int32} {out : Int32} (hq : q_X12_isLeaking N Y V a0 x1 x2 = some out) : Met l yX12_isLeaking (bk_ws yX12_isLeaking cX12_isLeaking 3 (some FieldType.boolean)) rm_X12_isLeaking (bk_Pc G [.ref a0, .int x1, .int x2] Y V) (bk_Q G (some (.int out)) Y V) 0 0 (bk_A G) :=
  bk_met (by decide) (Nat.le_of_ble_eq_true rfl) (fun p e s m args below meth c ls C hnm hH hl => w_X12_isLeaking C _ _ _ _ _ _ _ _ hl hH hq)

def rm_X12_feed : Room := bk_rm 1 0 0 22
set_option maxRecDepth 100000 in
set_option maxHeartbeats 4000000 in
theorem w_X12_feed (C : bk_C G p s m args meth c cX12_feed RX12 6 (some FieldType.int)) : ∀ (V : bk_Val) (a0 : Nat) (x1 : Int32) (x2 : Int32) (x3 : Int32) (x4 : Int32) (x5 : Int32) (H : Heap) (locs : List Loc) (ls : Array Slot) (out : Int32 × bk_Val), lv_has ls 6 [(0, .ref a0), (1, .int x1), (2, .int x2), (3, .int x3), (4, .int x4), (5, .int x5)] → bk_H G Y V s.heap H locs → q_X12_feed N Y V a0 x1 x2 x3 x4 x5 = some out → W p l e rm_X12_feed s m args below meth c H locs 0 0 (MQ below (bk_Q G (some (.int out.1)) Y out.2) args s 0 0 (bk_A G)) (F0 m 0 ls []) := by
  have hx := C.1
  have hb := C.2.1
  intro V a0 x1 x2 x3 x4 x5 H locs ls out hl hH hq
  unfold q_X12_feed at hq
  refine lv_aload_n hx hb dX12_feed_0 rfl (lv_at hl 0 rfl) ?_
  refine lv_iconst (v := 0) hx hb dX12_feed_1 (by decide) ?_
  obtain ⟨hs_1, hq⟩ := bk_ck_some hq
  refine bk_puti C hH fp_RX12_127 (fun h => by cases h) hs_1 rfl dX12_feed_2 (fun V_2 H locs e_3 hH => ?_)
  have hq := bk_let_eq e_3 hq
  refine lv_aload_n hx hb dX12_feed_5 rfl (lv_at hl 0 rfl) ?_
  refine bk_geti C hH fl_RX12_130 hs_1 rfl dX12_feed_6 ?_
  refine lv_bipush (v := 20) hx hb dX12_feed_9 (by decide) ?_
  refine lv_iadd hx hb dX12_feed_11 ?_
  refine lv_sipush (v := 700) hx hb dX12_feed_12 (by decide) ?_
  refine lv_icmp_le (tgt := 20) hx hb dX12_feed_15 (by decide) (fun hc_14 => ?_) (fun hc_14 => ?_)
  · rw [if_pos hc_14] at hq
    refine lv_aload_n hx hb dX12_feed_20 rfl (lv_at hl 0 rfl) ?_
    refine lv_iload_n hx hb dX12_feed_21 rfl (lv_at hl 1 rfl) ?_
    obtain ⟨V_5, hr_4, hq⟩ := bk_bd_some hq
    refine bk_callV (rest := []) (As := [.int x1]) (ro := none) (Y1 := Y) (V1 := V_5) C hH hl.1 (c_X12_lays hr_4) mc_X12_lays mv_X12_lays lk_RX12_133 hs_1 rfl rfl ⟨rfl, rfl⟩ ⟨by decide, by decide⟩ rfl (Nat.le_of_ble_eq_true rfl) dX12_feed_22 ⟨by decide, by decide⟩ (fun H locs hH => ?_)
    refine lv_aload_n hx hb dX12_feed_25 rfl (lv_at hl 0 rfl) ?_
    refine lv_iload_n hx hb dX12_feed_26 rfl (lv_at hl 2 rfl) ?_
    obtain ⟨V_7, hr_6, hq⟩ := bk_bd_some hq
    refine bk_callV (rest := []) (As := [.int x2]) (ro := none) (Y1 := Y) (V1 := V_7) C hH hl.1 (c_X12_lays hr_6) mc_X12_lays mv_X12_lays lk_RX12_133 hs_1 rfl rfl ⟨rfl, rfl⟩ ⟨by decide, by decide⟩ rfl (Nat.le_of_ble_eq_true rfl) dX12_feed_27 ⟨by decide, by decide⟩ (fun H locs hH => ?_)
    refine lv_aload_n hx hb dX12_feed_30 rfl (lv_at hl 0 rfl) ?_
    refine lv_iload_n hx hb dX12_feed_31 rfl (lv_at hl 3 rfl) ?_
    obtain ⟨V_9, hr_8, hq⟩ := bk_bd_some hq
    refine bk_callV (rest := []) (As := [.int x3]) (ro := none) (Y1 := Y) (V1 := V_9) C hH hl.1 (c_X12_lays hr_8) mc_X12_lays mv_X12_lays lk_RX12_133 hs_1 rfl rfl ⟨rfl, rfl⟩ ⟨by decide, by decide⟩ rfl (Nat.le_of_ble_eq_true rfl) dX12_feed_32 ⟨by decide, by decide⟩ (fun H locs hH => ?_)
    refine lv_aload_n hx hb dX12_feed_35 rfl (lv_at hl 0 rfl) ?_
    refine lv_iload hx hb dX12_feed_36 (lv_at hl 4 rfl) ?_
    obtain ⟨V_11, hr_10, hq⟩ := bk_bd_some hq
    refine bk_callV (rest := []) (As := [.int x4]) (ro := none) (Y1 := Y) (V1 := V_11) C hH hl.1 (c_X12_lays hr_10) mc_X12_lays mv_X12_lays lk_RX12_133 hs_1 rfl rfl ⟨rfl, rfl⟩ ⟨by decide, by decide⟩ rfl (Nat.le_of_ble_eq_true rfl) dX12_feed_38 ⟨by decide, by decide⟩ (fun H locs hH => ?_)
    refine lv_aload_n hx hb dX12_feed_41 rfl (lv_at hl 0 rfl) ?_
    refine lv_iload hx hb dX12_feed_42 (lv_at hl 5 rfl) ?_
    obtain ⟨V_13, hr_12, hq⟩ := bk_bd_some hq
    refine bk_callV (rest := []) (As := [.int x5]) (ro := none) (Y1 := Y) (V1 := V_13) C hH hl.1 (c_X12_lays hr_12) mc_X12_lays mv_X12_lays lk_RX12_133 hs_1 rfl rfl ⟨rfl, rfl⟩ ⟨by decide, by decide⟩ rfl (Nat.le_of_ble_eq_true rfl) dX12_feed_44 ⟨by decide, by decide⟩ (fun H locs hH => ?_)
    refine lv_aload_n hx hb dX12_feed_47 rfl (lv_at hl 0 rfl) ?_
    refine bk_geti C hH fl_RX12_130 hs_1 rfl dX12_feed_48 ?_
    cases hq
    exact bk_iret C hH dX12_feed_51
  · rw [if_neg hc_14] at hq
    refine lv_iconst (v := (-1)) hx hb dX12_feed_18 (by decide) ?_
    cases hq
    exact bk_iret C hH dX12_feed_19
set_option maxRecDepth 100000 in
theorem c_X12_feed {l : Launch} {G : bk_G} {N : Nat} {Y : bk_Lay} {V : bk_Val} {a0 : Nat} {x1 : Int32} {x2 : Int32} {x3 : Int32} {x4 : Int32} {x5 : Int32} {out : Int32 × bk_Val} (hq : q_X12_feed N Y V a0 x1 x2 x3 x4 x5 = some out) : Met l yX12_feed (bk_ws yX12_feed cX12_feed 6 (some FieldType.int)) rm_X12_feed (bk_Pc G [.ref a0, .int x1, .int x2, .int x3, .int x4, .int x5] Y V) (bk_Q G (some (.int out.1)) Y out.2) 0 0 (bk_A G) :=
  bk_met (by decide) (Nat.le_of_ble_eq_true rfl) (fun p e s m args below meth c ls C hnm hH hl => w_X12_feed C _ _ _ _ _ _ _ _ _ _ _ hl hH hq)

def rm_X12_isGood : Room := bk_rm 0 0 0 0
set_option maxRecDepth 100000 in
set_option maxHeartbeats 4000000 in
theorem w_X12_isGood (C : bk_C G p s m args meth c cX12_isGood RX12 1 (some FieldType.boolean)) : ∀ (V : bk_Val) (a0 : Nat) (H : Heap) (locs : List Loc) (ls : Array Slot) (out : Int32), lv_has ls 1 [(0, .ref a0)] → bk_H G Y V s.heap H locs → q_X12_isGood N Y V a0 = some out → W p l e rm_X12_isGood s m args below meth c H locs 0 0 (MQ below (bk_Q G (some (.int out)) Y V) args s 0 0 (bk_A G)) (F0 m 0 ls []) := by
  have hx := C.1
  have hb := C.2.1
  intro V a0 H locs ls out hl hH hq
  unfold q_X12_isGood at hq
  refine lv_aload_n hx hb dX12_isGood_0 rfl (lv_at hl 0 rfl) ?_
  obtain ⟨hs_1, hq⟩ := bk_ck_some hq
  refine bk_geti C hH fl_RX12_183 hs_1 rfl dX12_isGood_1 ?_
  refine lv_if_ne (tgt := 11) hx hb dX12_isGood_4 (by decide) (fun hc_2 => ?_) (fun hc_2 => ?_)
  · rw [if_neg hc_2] at hq
    refine lv_iconst (v := 0) hx hb dX12_isGood_11 (by decide) ?_
    cases hq
    exact bk_zret C hH (Or.inl rfl) dX12_isGood_12
  · rw [if_pos hc_2] at hq
    refine lv_iconst (v := 1) hx hb dX12_isGood_7 (by decide) ?_
    refine lv_goto (tgt := 12) hx hb dX12_isGood_8 (by decide) ?_
    cases hq
    exact bk_zret C hH (Or.inr rfl) dX12_isGood_12
set_option maxRecDepth 100000 in
theorem c_X12_isGood {l : Launch} {G : bk_G} {N : Nat} {Y : bk_Lay} {V : bk_Val} {a0 : Nat} {out : Int32} (hq : q_X12_isGood N Y V a0 = some out) : Met l yX12_isGood (bk_ws yX12_isGood cX12_isGood 1 (some FieldType.boolean)) rm_X12_isGood (bk_Pc G [.ref a0] Y V) (bk_Q G (some (.int out)) Y V) 0 0 (bk_A G) :=
  bk_met (by decide) (Nat.le_of_ble_eq_true rfl) (fun p e s m args below meth c ls C hnm hH hl => w_X12_isGood C _ _ _ _ _ _ hl hH hq)

def rm_X12_leakers : Room := bk_rm 1 0 0 22
set_option maxRecDepth 100000 in
set_option maxHeartbeats 4000000 in
theorem w_X12_leakers_29 (C : bk_C G p s m args meth c cX12_leakers RX12 4 (some FieldType.int)) (k4 : bk_Val → Nat → Int32 → Int32 → Int32 → Option (Int32)) (i4 : ∀ (V : bk_Val) (a0 : Nat) (x1 : Int32) (x2 : Int32) (x3 : Int32) (H : Heap) (locs : List Loc) (ls : Array Slot) (out : Int32), lv_has ls 4 [(0, .ref a0), (1, .int x1), (2, .int x2), (3, .int x3)] → bk_H G Y V s.heap H locs → k4 V a0 x1 x2 x3 = some out → W p l e rm_X12_leakers s m args below meth c H locs 0 0 (MQ below (bk_Q G (some (.int out)) Y V) args s 0 0 (bk_A G)) (F0 m 4 ls [])) : ∀ (V : bk_Val) (a0 : Nat) (x1 : Int32) (x3 : Int32) (sx0 : Int32) (sx1 : Int32) (H : Heap) (locs : List Loc) (ls : Array Slot) (out : Int32), lv_has ls 4 [(0, .ref a0), (1, .int x1), (3, .int x3)] → bk_H G Y V s.heap H locs → q_X12_leakers_29 N Y k4 V a0 x1 x3 sx0 sx1 = some out → W p l e rm_X12_leakers s m args below meth c H locs 0 0 (MQ below (bk_Q G (some (.int out)) Y V) args s 0 0 (bk_A G)) (F0 m 29 ls [.int sx1, .int sx0]) := by
  have hx := C.1
  have hb := C.2.1
  intro V a0 x1 x3 sx0 sx1 H locs ls out hl hH hq
  unfold q_X12_leakers_29 at hq
  refine lv_ior hx hb dX12_leakers_29 ?_
  refine lv_istore_n (lv' := [(2, .int (sx0 ||| sx1)), (0, .ref a0), (1, .int x1), (3, .int x3)]) hx hb dX12_leakers_30 rfl hl (by decide) rfl (fun ls hl => ?_)
  refine lv_iinc (v := (x3 + 1)) (lv' := [(3, .int (x3 + 1)), (2, .int (sx0 ||| sx1)), (0, .ref a0), (1, .int x1)]) hx hb dX12_leakers_31 hl (k := 3) rfl rfl (by decide) rfl (fun ls hl => ?_)
  refine lv_goto (tgt := 4) hx hb dX12_leakers_34 (by decide) ?_
  exact i4 _ _ _ _ _ _ _ _ _ (lv_sub hl [2, 3, 1, 0] rfl) hH hq

set_option maxRecDepth 100000 in
set_option maxHeartbeats 4000000 in
theorem w_X12_leakers_4 (C : bk_C G p s m args meth c cX12_leakers RX12 4 (some FieldType.int)) : ∀ (n : Nat), ∀ (V : bk_Val) (a0 : Nat) (x1 : Int32) (x2 : Int32) (x3 : Int32) (H : Heap) (locs : List Loc) (ls : Array Slot) (out : Int32), lv_has ls 4 [(0, .ref a0), (1, .int x1), (2, .int x2), (3, .int x3)] → bk_H G Y V s.heap H locs → q_X12_leakers_4 N Y n V a0 x1 x2 x3 = some out → W p l e rm_X12_leakers s m args below meth c H locs 0 0 (MQ below (bk_Q G (some (.int out)) Y V) args s 0 0 (bk_A G)) (F0 m 4 ls []) := by
  have hx := C.1
  have hb := C.2.1
  intro n
  induction n with
  | zero =>
    intro V a0 x1 x2 x3 H locs ls out hl hH hq
    exact nomatch (show (none : Option (Int32)) = some out from hq)
  | succ n ih =>
    intro V a0 x1 x2 x3 H locs ls out hl hH hq
    unfold q_X12_leakers_4 at hq
    refine lv_iload_n hx hb dX12_leakers_4 rfl (lv_at hl 3 rfl) ?_
    refine lv_aload_n hx hb dX12_leakers_5 rfl (lv_at hl 0 rfl) ?_
    obtain ⟨hs_1, hq⟩ := bk_ck_some hq
    refine bk_geti C hH fl_RX12_329 hs_1 rfl dX12_leakers_6 ?_
    refine lv_icmp_ge (tgt := 37) hx hb dX12_leakers_9 (by decide) (fun hc_5 => ?_) (fun hc_5 => ?_)
    · rw [if_pos hc_5] at hq
      refine lv_iload_n hx hb dX12_leakers_37 rfl (lv_at hl 2 rfl) ?_
      cases hq
      exact bk_iret C hH dX12_leakers_38
    · rw [if_neg hc_5] at hq
      refine lv_iload_n hx hb dX12_leakers_12 rfl (lv_at hl 2 rfl) ?_
      refine lv_aload_n hx hb dX12_leakers_13 rfl (lv_at hl 0 rfl) ?_
      refine lv_iload_n hx hb dX12_leakers_14 rfl (lv_at hl 3 rfl) ?_
      refine lv_iload_n hx hb dX12_leakers_15 rfl (lv_at hl 1 rfl) ?_
      obtain ⟨r_3, hr_2, hq⟩ := bk_bd_some hq
      refine bk_callV (rest := [.int x2]) (As := [.int x3, .int x1]) (ro := (some (.int r_3))) (Y1 := Y) (V1 := V) C hH hl.1 (c_X12_isLeaking hr_2) mc_X12_isLeaking mv_X12_isLeaking lk_RX12_390 hs_1 rfl rfl ⟨rfl, rfl⟩ ⟨by decide, by decide⟩ rfl (Nat.le_of_ble_eq_true rfl) dX12_leakers_16 ⟨by decide, by decide⟩ (fun H locs hH => ?_)
      refine lv_if_eq (tgt := 28) hx hb dX12_leakers_19 (by decide) (fun hc_4 => ?_) (fun hc_4 => ?_)
      · rw [if_pos hc_4] at hq
        refine lv_iconst (v := 0) hx hb dX12_leakers_28 (by decide) ?_
        exact w_X12_leakers_29 C _ ih _ _ _ _ _ _ _ _ _ _ (lv_sub hl [0, 1, 3] rfl) hH hq
      · rw [if_neg hc_4] at hq
        refine lv_iconst (v := 1) hx hb dX12_leakers_22 (by decide) ?_
        refine lv_iload_n hx hb dX12_leakers_23 rfl (lv_at hl 3 rfl) ?_
        refine bk_ishl hx hb dX12_leakers_24 ?_
        refine lv_goto (tgt := 29) hx hb dX12_leakers_25 (by decide) ?_
        exact w_X12_leakers_29 C _ ih _ _ _ _ _ _ _ _ _ _ (lv_sub hl [0, 1, 3] rfl) hH hq

set_option maxRecDepth 100000 in
set_option maxHeartbeats 4000000 in
theorem w_X12_leakers (C : bk_C G p s m args meth c cX12_leakers RX12 4 (some FieldType.int)) : ∀ (V : bk_Val) (a0 : Nat) (x1 : Int32) (H : Heap) (locs : List Loc) (ls : Array Slot) (out : Int32), lv_has ls 4 [(0, .ref a0), (1, .int x1)] → bk_H G Y V s.heap H locs → q_X12_leakers N Y V a0 x1 = some out → W p l e rm_X12_leakers s m args below meth c H locs 0 0 (MQ below (bk_Q G (some (.int out)) Y V) args s 0 0 (bk_A G)) (F0 m 0 ls []) := by
  have hx := C.1
  have hb := C.2.1
  intro V a0 x1 H locs ls out hl hH hq
  unfold q_X12_leakers at hq
  refine lv_iconst (v := 0) hx hb dX12_leakers_0 (by decide) ?_
  refine lv_istore_n (lv' := [(2, .int 0), (0, .ref a0), (1, .int x1)]) hx hb dX12_leakers_1 rfl hl (by decide) rfl (fun ls hl => ?_)
  refine lv_iconst (v := 0) hx hb dX12_leakers_2 (by decide) ?_
  refine lv_istore_n (lv' := [(3, .int 0), (2, .int 0), (0, .ref a0), (1, .int x1)]) hx hb dX12_leakers_3 rfl hl (by decide) rfl (fun ls hl => ?_)
  exact w_X12_leakers_4 C _ _ _ _ _ _ _ _ _ _ (lv_sub hl [2, 3, 1, 0] rfl) hH hq
set_option maxRecDepth 100000 in
theorem c_X12_leakers {l : Launch} {G : bk_G} {N : Nat} {Y : bk_Lay} {V : bk_Val} {a0 : Nat} {x1 : Int32} {out : Int32} (hq : q_X12_leakers N Y V a0 x1 = some out) : Met l yX12_leakers (bk_ws yX12_leakers cX12_leakers 4 (some FieldType.int)) rm_X12_leakers (bk_Pc G [.ref a0, .int x1] Y V) (bk_Q G (some (.int out)) Y V) 0 0 (bk_A G) :=
  bk_met (by decide) (Nat.le_of_ble_eq_true rfl) (fun p e s m args below meth c ls C hnm hH hl => w_X12_leakers C _ _ _ _ _ _ _ hl hH hq)

def rm_X12_isDigit : Room := bk_rm 0 0 0 0
set_option maxRecDepth 100000 in
set_option maxHeartbeats 4000000 in
theorem w_X12_isDigit (C : bk_C G p s m args meth c cX12_isDigit RX12 1 (some FieldType.boolean)) : ∀ (V : bk_Val) (x0 : Int32) (H : Heap) (locs : List Loc) (ls : Array Slot) (out : Int32), lv_has ls 1 [(0, .int x0)] → bk_H G Y V s.heap H locs → q_X12_isDigit N Y V x0 = some out → W p l e rm_X12_isDigit s m args below meth c H locs 0 0 (MQ below (bk_Q G (some (.int out)) Y V) args s 0 0 (bk_A G)) (F0 m 0 ls []) := by
  have hx := C.1
  have hb := C.2.1
  intro V x0 H locs ls out hl hH hq
  unfold q_X12_isDigit at hq
  refine lv_iload_n hx hb dX12_isDigit_0 rfl (lv_at hl 0 rfl) ?_
  refine lv_bipush (v := 48) hx hb dX12_isDigit_1 (by decide) ?_
  refine lv_icmp_lt (tgt := 16) hx hb dX12_isDigit_3 (by decide) (fun hc_2 => ?_) (fun hc_2 => ?_)
  · rw [if_pos hc_2] at hq
    refine lv_iconst (v := 0) hx hb dX12_isDigit_16 (by decide) ?_
    cases hq
    exact bk_zret C hH (Or.inl rfl) dX12_isDigit_17
  · rw [if_neg hc_2] at hq
    refine lv_iload_n hx hb dX12_isDigit_6 rfl (lv_at hl 0 rfl) ?_
    refine lv_bipush (v := 57) hx hb dX12_isDigit_7 (by decide) ?_
    refine lv_icmp_gt (tgt := 16) hx hb dX12_isDigit_9 (by decide) (fun hc_1 => ?_) (fun hc_1 => ?_)
    · rw [if_pos hc_1] at hq
      refine lv_iconst (v := 0) hx hb dX12_isDigit_16 (by decide) ?_
      cases hq
      exact bk_zret C hH (Or.inl rfl) dX12_isDigit_17
    · rw [if_neg hc_1] at hq
      refine lv_iconst (v := 1) hx hb dX12_isDigit_12 (by decide) ?_
      refine lv_goto (tgt := 17) hx hb dX12_isDigit_13 (by decide) ?_
      cases hq
      exact bk_zret C hH (Or.inr rfl) dX12_isDigit_17
set_option maxRecDepth 100000 in
theorem c_X12_isDigit {l : Launch} {G : bk_G} {N : Nat} {Y : bk_Lay} {V : bk_Val} {x0 : Int32} {out : Int32} (hq : q_X12_isDigit N Y V x0 = some out) : Met l yX12_isDigit (bk_ws yX12_isDigit cX12_isDigit 1 (some FieldType.boolean)) rm_X12_isDigit (bk_Pc G [.int x0] Y V) (bk_Q G (some (.int out)) Y V) 0 0 (bk_A G) :=
  bk_met (by decide) (Nat.le_of_ble_eq_true rfl) (fun p e s m args below meth c ls C hnm hH hl => w_X12_isDigit C _ _ _ _ _ _ hl hH hq)

def rm_X12_byteAt : Room := bk_rm 0 0 0 0
set_option maxRecDepth 100000 in
set_option maxHeartbeats 4000000 in
theorem w_X12_byteAt (C : bk_C G p s m args meth c cX12_byteAt RX12 2 (some FieldType.int)) : ∀ (V : bk_Val) (a0 : Nat) (x1 : Int32) (H : Heap) (locs : List Loc) (ls : Array Slot) (out : Int32), lv_has ls 2 [(0, .ref a0), (1, .int x1)] → bk_H G Y V s.heap H locs → q_X12_byteAt N Y V a0 x1 = some out → W p l e rm_X12_byteAt s m args below meth c H locs 0 0 (MQ below (bk_Q G (some (.int out)) Y V) args s 0 0 (bk_A G)) (F0 m 0 ls []) := by
  have hx := C.1
  have hb := C.2.1
  intro V a0 x1 H locs ls out hl hH hq
  unfold q_X12_byteAt at hq
  refine lv_iload_n hx hb dX12_byteAt_0 rfl (lv_at hl 1 rfl) ?_
  refine lv_aload_n hx hb dX12_byteAt_1 rfl (lv_at hl 0 rfl) ?_
  obtain ⟨hs_1, hq⟩ := bk_ck_some hq
  refine bk_geti C hH fl_RX12_137 hs_1 rfl dX12_byteAt_2 ?_
  refine lv_icmp_ge (tgt := 17) hx hb dX12_byteAt_5 (by decide) (fun hc_6 => ?_) (fun hc_6 => ?_)
  · rw [if_pos hc_6] at hq
    refine lv_iconst (v := 0) hx hb dX12_byteAt_17 (by decide) ?_
    cases hq
    exact bk_iret C hH dX12_byteAt_18
  · rw [if_neg hc_6] at hq
    refine lv_aload_n hx hb dX12_byteAt_8 rfl (lv_at hl 0 rfl) ?_
    obtain ⟨b_2, hr_3, hq⟩ := bk_bd_some hq
    refine bk_getr C hH fl_RX12_53 hs_1 rfl hr_3 dX12_byteAt_9 ?_
    refine lv_iload_n hx hb dX12_byteAt_12 rfl (lv_at hl 1 rfl) ?_
    obtain ⟨ha_4, hq⟩ := bk_ck_some hq
    obtain ⟨hi_5, hq⟩ := bk_ck_some hq
    refine bk_iald C hH (bk_arr ha_4) (bk_in_vp hi_5) dX12_byteAt_13 ?_
    refine lv_goto (tgt := 18) hx hb dX12_byteAt_14 (by decide) ?_
    cases hq
    exact bk_iret C hH dX12_byteAt_18
set_option maxRecDepth 100000 in
theorem c_X12_byteAt {l : Launch} {G : bk_G} {N : Nat} {Y : bk_Lay} {V : bk_Val} {a0 : Nat} {x1 : Int32} {out : Int32} (hq : q_X12_byteAt N Y V a0 x1 = some out) : Met l yX12_byteAt (bk_ws yX12_byteAt cX12_byteAt 2 (some FieldType.int)) rm_X12_byteAt (bk_Pc G [.ref a0, .int x1] Y V) (bk_Q G (some (.int out)) Y V) 0 0 (bk_A G) :=
  bk_met (by decide) (Nat.le_of_ble_eq_true rfl) (fun p e s m args below meth c ls C hnm hH hl => w_X12_byteAt C _ _ _ _ _ _ _ hl hH hq)

def rm_X12_goes : Room := bk_rm 1 0 0 21
set_option maxRecDepth 100000 in
set_option maxHeartbeats 4000000 in
theorem w_X12_goes_331 (C : bk_C G p s m args meth c cX12_goes RX12 2 (none : Option FieldType)) : ∀ (V : bk_Val) (a0 : Nat) (H : Heap) (locs : List Loc) (ls : Array Slot) (out : bk_Val), lv_has ls 2 [(0, .ref a0)] → bk_H G Y V s.heap H locs → q_X12_goes_331 N Y V a0 = some out → W p l e rm_X12_goes s m args below meth c H locs 0 0 (MQ below (bk_Q G none Y out) args s 0 0 (bk_A G)) (F0 m 331 ls []) := by
  have hx := C.1
  have hb := C.2.1
  intro V a0 H locs ls out hl hH hq
  unfold q_X12_goes_331 at hq
  refine lv_aload_n hx hb dX12_goes_331 rfl (lv_at hl 0 rfl) ?_
  refine lv_aload_n hx hb dX12_goes_332 rfl (lv_at hl 0 rfl) ?_
  obtain ⟨hs_1, hq⟩ := bk_ck_some hq
  refine bk_geti C hH fl_RX12_140 hs_1 rfl dX12_goes_333 ?_
  refine lv_aload_n hx hb dX12_goes_336 rfl (lv_at hl 0 rfl) ?_
  refine bk_geti C hH fl_RX12_147 hs_1 rfl dX12_goes_337 ?_
  refine lv_isub hx hb dX12_goes_340 ?_
  refine bk_puti C hH fp_RX12_170 (fun h => by cases h) hs_1 rfl dX12_goes_341 (fun V_2 H locs e_3 hH => ?_)
  have hq := bk_let_eq e_3 hq
  cases hq
  exact bk_vret C hH dX12_goes_344

set_option maxRecDepth 100000 in
set_option maxHeartbeats 4000000 in
theorem w_X12_goes_159 (C : bk_C G p s m args meth c cX12_goes RX12 2 (none : Option FieldType)) (k108 : bk_Val → Nat → Option (bk_Val)) (i108 : ∀ (V : bk_Val) (a0 : Nat) (H : Heap) (locs : List Loc) (ls : Array Slot) (out : bk_Val), lv_has ls 2 [(0, .ref a0)] → bk_H G Y V s.heap H locs → k108 V a0 = some out → W p l e rm_X12_goes s m args below meth c H locs 0 0 (MQ below (bk_Q G none Y out) args s 0 0 (bk_A G)) (F0 m 108 ls [])) : ∀ (V : bk_Val) (a0 : Nat) (H : Heap) (locs : List Loc) (ls : Array Slot) (out : bk_Val), lv_has ls 2 [(0, .ref a0)] → bk_H G Y V s.heap H locs → q_X12_goes_159 N Y k108 V a0 = some out → W p l e rm_X12_goes s m args below meth c H locs 0 0 (MQ below (bk_Q G none Y out) args s 0 0 (bk_A G)) (F0 m 159 ls []) := by
  have hx := C.1
  have hb := C.2.1
  intro V a0 H locs ls out hl hH hq
  unfold q_X12_goes_159 at hq
  refine lv_aload_n hx hb dX12_goes_159 rfl (lv_at hl 0 rfl) ?_
  refine lv_dup hx hb dX12_goes_160 rfl ?_
  obtain ⟨hs_4, hq⟩ := bk_ck_some hq
  refine bk_geti C hH fl_RX12_140 hs_4 rfl dX12_goes_161 ?_
  refine lv_iconst (v := 1) hx hb dX12_goes_164 (by decide) ?_
  refine lv_iadd hx hb dX12_goes_165 ?_
  refine bk_puti C hH fp_RX12_140 (fun h => by cases h) hs_4 rfl dX12_goes_166 (fun V_5 H locs e_6 hH => ?_)
  have hq := bk_let_eq e_6 hq
  refine lv_goto (tgt := 108) hx hb dX12_goes_169 (by decide) ?_
  exact i108 _ _ _ _ _ _ (lv_sub hl [0] rfl) hH hq

set_option maxRecDepth 100000 in
set_option maxHeartbeats 4000000 in
theorem w_X12_goes_108 (C : bk_C G p s m args meth c cX12_goes RX12 2 (none : Option FieldType)) : ∀ (n : Nat), ∀ (V : bk_Val) (a0 : Nat) (H : Heap) (locs : List Loc) (ls : Array Slot) (out : bk_Val), lv_has ls 2 [(0, .ref a0)] → bk_H G Y V s.heap H locs → q_X12_goes_108 N Y n V a0 = some out → W p l e rm_X12_goes s m args below meth c H locs 0 0 (MQ below (bk_Q G none Y out) args s 0 0 (bk_A G)) (F0 m 108 ls []) := by
  have hx := C.1
  have hb := C.2.1
  intro n
  induction n with
  | zero =>
    intro V a0 H locs ls out hl hH hq
    exact nomatch (show (none : Option (bk_Val)) = some out from hq)
  | succ n ih =>
    intro V a0 H locs ls out hl hH hq
    unfold q_X12_goes_108 at hq
    refine lv_aload_n hx hb dX12_goes_108 rfl (lv_at hl 0 rfl) ?_
    refine lv_aload_n hx hb dX12_goes_109 rfl (lv_at hl 0 rfl) ?_
    obtain ⟨hs_7, hq⟩ := bk_ck_some hq
    refine bk_geti C hH fl_RX12_140 hs_7 rfl dX12_goes_110 ?_
    obtain ⟨r_9, hr_8, hq⟩ := bk_bd_some hq
    refine bk_callV (rest := []) (As := [.int (bk_rI V a0 25)]) (ro := (some (.int r_9))) (Y1 := Y) (V1 := V) C hH hl.1 (c_X12_byteAt hr_8) mc_X12_byteAt mv_X12_byteAt lk_RX12_143 hs_7 rfl rfl ⟨rfl, rfl⟩ ⟨by decide, by decide⟩ rfl (Nat.le_of_ble_eq_true rfl) dX12_goes_113 ⟨by decide, by decide⟩ (fun H locs hH => ?_)
    obtain ⟨r_11, hr_10, hq⟩ := bk_bd_some hq
    refine bk_callS (rest := []) (As := [.int r_9]) (ro := (some (.int r_11))) (Y1 := Y) (V1 := V) C hH hl.1 (c_X12_isLetter hr_10) mc_X12_isLetter st_X12_isLetter lk_RX12_163 rfl ⟨rfl, rfl⟩ ⟨by decide, by decide⟩ rfl (Nat.le_of_ble_eq_true rfl) dX12_goes_116 ⟨by decide, by decide⟩ (fun H locs hH => ?_)
    refine lv_if_eq (tgt := 172) hx hb dX12_goes_119 (by decide) (fun hc_19 => ?_) (fun hc_19 => ?_)
    · rw [if_pos hc_19] at hq
      refine lv_aload_n hx hb dX12_goes_172 rfl (lv_at hl 0 rfl) ?_
      refine lv_iconst (v := 1) hx hb dX12_goes_173 (by decide) ?_
      refine bk_puti C hH fp_RX12_160 (fun h => by cases h) hs_7 rfl dX12_goes_174 (fun V_12 H locs e_13 hH => ?_)
      have hq := bk_let_eq e_13 hq
      refine lv_goto (tgt := 331) hx hb dX12_goes_177 (by decide) ?_
      exact w_X12_goes_331 C _ _ _ _ _ _ (lv_sub hl [0] rfl) hH hq
    · rw [if_neg hc_19] at hq
      refine lv_aload_n hx hb dX12_goes_122 rfl (lv_at hl 0 rfl) ?_
      refine bk_geti C hH fl_RX12_140 hs_7 rfl dX12_goes_123 ?_
      refine lv_aload_n hx hb dX12_goes_126 rfl (lv_at hl 0 rfl) ?_
      refine bk_geti C hH fl_RX12_147 hs_7 rfl dX12_goes_127 ?_
      refine lv_isub hx hb dX12_goes_130 ?_
      refine lv_bipush (v := 8) hx hb dX12_goes_131 (by decide) ?_
      refine lv_icmp_ge (tgt := 159) hx hb dX12_goes_133 (by decide) (fun hc_18 => ?_) (fun hc_18 => ?_)
      · rw [if_pos hc_18] at hq
        exact w_X12_goes_159 C _ ih _ _ _ _ _ _ (lv_sub hl [0] rfl) hH hq
      · rw [if_neg hc_18] at hq
        refine lv_aload_n hx hb dX12_goes_136 rfl (lv_at hl 0 rfl) ?_
        refine lv_aload_n hx hb dX12_goes_137 rfl (lv_at hl 0 rfl) ?_
        refine bk_getl C hH fl_RX12_150 hs_7 rfl dX12_goes_138 ?_
        refine lv_iconst (v := 5) hx hb dX12_goes_141 (by decide) ?_
        refine bk_lshl hx hb dX12_goes_142 ?_
        refine lv_aload_n hx hb dX12_goes_143 rfl (lv_at hl 0 rfl) ?_
        refine lv_aload_n hx hb dX12_goes_144 rfl (lv_at hl 0 rfl) ?_
        refine bk_geti C hH fl_RX12_140 hs_7 rfl dX12_goes_145 ?_
        obtain ⟨r_15, hr_14, hq⟩ := bk_bd_some hq
        refine bk_callV (rest := [.long (bk_shlL (bk_rL V a0 31) 5), .ref a0]) (As := [.int (bk_rI V a0 25)]) (ro := (some (.int r_15))) (Y1 := Y) (V1 := V) C hH hl.1 (c_X12_byteAt hr_14) mc_X12_byteAt mv_X12_byteAt lk_RX12_143 hs_7 rfl rfl ⟨rfl, rfl⟩ ⟨by decide, by decide⟩ rfl (Nat.le_of_ble_eq_true rfl) dX12_goes_148 ⟨by decide, by decide⟩ (fun H locs hH => ?_)
        refine lv_bipush (v := 96) hx hb dX12_goes_151 (by decide) ?_
        refine lv_isub hx hb dX12_goes_153 ?_
        refine bk_i2l hx hb dX12_goes_154 ?_
        refine lv_lor hx hb dX12_goes_155 ?_
        refine bk_putl C hH fp_RX12_150 (fun h => by cases h) hs_7 rfl dX12_goes_156 (fun V_16 H locs e_17 hH => ?_)
        have hq := bk_let_eq e_17 hq
        exact w_X12_goes_159 C _ ih _ _ _ _ _ _ (lv_sub hl [0] rfl) hH hq

set_option maxRecDepth 100000 in
set_option maxHeartbeats 4000000 in
theorem w_X12_goes_237 (C : bk_C G p s m args meth c cX12_goes RX12 2 (none : Option FieldType)) (k187 : bk_Val → Nat → Option (bk_Val)) (i187 : ∀ (V : bk_Val) (a0 : Nat) (H : Heap) (locs : List Loc) (ls : Array Slot) (out : bk_Val), lv_has ls 2 [(0, .ref a0)] → bk_H G Y V s.heap H locs → k187 V a0 = some out → W p l e rm_X12_goes s m args below meth c H locs 0 0 (MQ below (bk_Q G none Y out) args s 0 0 (bk_A G)) (F0 m 187 ls [])) : ∀ (V : bk_Val) (a0 : Nat) (H : Heap) (locs : List Loc) (ls : Array Slot) (out : bk_Val), lv_has ls 2 [(0, .ref a0)] → bk_H G Y V s.heap H locs → q_X12_goes_237 N Y k187 V a0 = some out → W p l e rm_X12_goes s m args below meth c H locs 0 0 (MQ below (bk_Q G none Y out) args s 0 0 (bk_A G)) (F0 m 237 ls []) := by
  have hx := C.1
  have hb := C.2.1
  intro V a0 H locs ls out hl hH hq
  unfold q_X12_goes_237 at hq
  refine lv_aload_n hx hb dX12_goes_237 rfl (lv_at hl 0 rfl) ?_
  refine lv_dup hx hb dX12_goes_238 rfl ?_
  obtain ⟨hs_20, hq⟩ := bk_ck_some hq
  refine bk_geti C hH fl_RX12_140 hs_20 rfl dX12_goes_239 ?_
  refine lv_iconst (v := 1) hx hb dX12_goes_242 (by decide) ?_
  refine lv_iadd hx hb dX12_goes_243 ?_
  refine bk_puti C hH fp_RX12_140 (fun h => by cases h) hs_20 rfl dX12_goes_244 (fun V_21 H locs e_22 hH => ?_)
  have hq := bk_let_eq e_22 hq
  refine lv_goto (tgt := 187) hx hb dX12_goes_247 (by decide) ?_
  exact i187 _ _ _ _ _ _ (lv_sub hl [0] rfl) hH hq

set_option maxRecDepth 100000 in
set_option maxHeartbeats 4000000 in
theorem w_X12_goes_187 (C : bk_C G p s m args meth c cX12_goes RX12 2 (none : Option FieldType)) : ∀ (n : Nat), ∀ (V : bk_Val) (a0 : Nat) (H : Heap) (locs : List Loc) (ls : Array Slot) (out : bk_Val), lv_has ls 2 [(0, .ref a0)] → bk_H G Y V s.heap H locs → q_X12_goes_187 N Y n V a0 = some out → W p l e rm_X12_goes s m args below meth c H locs 0 0 (MQ below (bk_Q G none Y out) args s 0 0 (bk_A G)) (F0 m 187 ls []) := by
  have hx := C.1
  have hb := C.2.1
  intro n
  induction n with
  | zero =>
    intro V a0 H locs ls out hl hH hq
    exact nomatch (show (none : Option (bk_Val)) = some out from hq)
  | succ n ih =>
    intro V a0 H locs ls out hl hH hq
    unfold q_X12_goes_187 at hq
    refine lv_aload_n hx hb dX12_goes_187 rfl (lv_at hl 0 rfl) ?_
    refine lv_aload_n hx hb dX12_goes_188 rfl (lv_at hl 0 rfl) ?_
    obtain ⟨hs_23, hq⟩ := bk_ck_some hq
    refine bk_geti C hH fl_RX12_140 hs_23 rfl dX12_goes_189 ?_
    obtain ⟨r_25, hr_24, hq⟩ := bk_bd_some hq
    refine bk_callV (rest := []) (As := [.int (bk_rI V a0 25)]) (ro := (some (.int r_25))) (Y1 := Y) (V1 := V) C hH hl.1 (c_X12_byteAt hr_24) mc_X12_byteAt mv_X12_byteAt lk_RX12_143 hs_23 rfl rfl ⟨rfl, rfl⟩ ⟨by decide, by decide⟩ rfl (Nat.le_of_ble_eq_true rfl) dX12_goes_192 ⟨by decide, by decide⟩ (fun H locs hH => ?_)
    obtain ⟨r_27, hr_26, hq⟩ := bk_bd_some hq
    refine bk_callS (rest := []) (As := [.int r_25]) (ro := (some (.int r_27))) (Y1 := Y) (V1 := V) C hH hl.1 (c_X12_isDigit hr_26) mc_X12_isDigit st_X12_isDigit lk_RX12_167 rfl ⟨rfl, rfl⟩ ⟨by decide, by decide⟩ rfl (Nat.le_of_ble_eq_true rfl) dX12_goes_195 ⟨by decide, by decide⟩ (fun H locs hH => ?_)
    refine lv_if_eq (tgt := 250) hx hb dX12_goes_198 (by decide) (fun hc_35 => ?_) (fun hc_35 => ?_)
    · rw [if_pos hc_35] at hq
      refine lv_aload_n hx hb dX12_goes_250 rfl (lv_at hl 0 rfl) ?_
      refine lv_iconst (v := 2) hx hb dX12_goes_251 (by decide) ?_
      refine bk_puti C hH fp_RX12_160 (fun h => by cases h) hs_23 rfl dX12_goes_252 (fun V_28 H locs e_29 hH => ?_)
      have hq := bk_let_eq e_29 hq
      refine lv_goto (tgt := 331) hx hb dX12_goes_255 (by decide) ?_
      exact w_X12_goes_331 C _ _ _ _ _ _ (lv_sub hl [0] rfl) hH hq
    · rw [if_neg hc_35] at hq
      refine lv_aload_n hx hb dX12_goes_201 rfl (lv_at hl 0 rfl) ?_
      refine bk_geti C hH fl_RX12_140 hs_23 rfl dX12_goes_202 ?_
      refine lv_aload_n hx hb dX12_goes_205 rfl (lv_at hl 0 rfl) ?_
      refine bk_geti C hH fl_RX12_147 hs_23 rfl dX12_goes_206 ?_
      refine lv_isub hx hb dX12_goes_209 ?_
      refine lv_iconst (v := 4) hx hb dX12_goes_210 (by decide) ?_
      refine lv_icmp_ge (tgt := 237) hx hb dX12_goes_211 (by decide) (fun hc_34 => ?_) (fun hc_34 => ?_)
      · rw [if_pos hc_34] at hq
        exact w_X12_goes_237 C _ ih _ _ _ _ _ _ (lv_sub hl [0] rfl) hH hq
      · rw [if_neg hc_34] at hq
        refine lv_aload_n hx hb dX12_goes_214 rfl (lv_at hl 0 rfl) ?_
        refine lv_bipush (v := 10) hx hb dX12_goes_215 (by decide) ?_
        refine lv_aload_n hx hb dX12_goes_217 rfl (lv_at hl 0 rfl) ?_
        refine bk_geti C hH fl_RX12_154 hs_23 rfl dX12_goes_218 ?_
        refine lv_imul hx hb dX12_goes_221 ?_
        refine lv_aload_n hx hb dX12_goes_222 rfl (lv_at hl 0 rfl) ?_
        refine lv_aload_n hx hb dX12_goes_223 rfl (lv_at hl 0 rfl) ?_
        refine bk_geti C hH fl_RX12_140 hs_23 rfl dX12_goes_224 ?_
        obtain ⟨r_31, hr_30, hq⟩ := bk_bd_some hq
        refine bk_callV (rest := [.int (10 * (bk_rI V a0 29)), .ref a0]) (As := [.int (bk_rI V a0 25)]) (ro := (some (.int r_31))) (Y1 := Y) (V1 := V) C hH hl.1 (c_X12_byteAt hr_30) mc_X12_byteAt mv_X12_byteAt lk_RX12_143 hs_23 rfl rfl ⟨rfl, rfl⟩ ⟨by decide, by decide⟩ rfl (Nat.le_of_ble_eq_true rfl) dX12_goes_227 ⟨by decide, by decide⟩ (fun H locs hH => ?_)
        refine lv_iadd hx hb dX12_goes_230 ?_
        refine lv_bipush (v := 48) hx hb dX12_goes_231 (by decide) ?_
        refine lv_isub hx hb dX12_goes_233 ?_
        refine bk_puti C hH fp_RX12_154 (fun h => by cases h) hs_23 rfl dX12_goes_234 (fun V_32 H locs e_33 hH => ?_)
        have hq := bk_let_eq e_33 hq
        exact w_X12_goes_237 C _ ih _ _ _ _ _ _ (lv_sub hl [0] rfl) hH hq

set_option maxRecDepth 100000 in
set_option maxHeartbeats 4000000 in
theorem w_X12_goes_328 (C : bk_C G p s m args meth c cX12_goes RX12 2 (none : Option FieldType)) : ∀ (V : bk_Val) (a0 : Nat) (sa0 : Nat) (sx1 : Int32) (H : Heap) (locs : List Loc) (ls : Array Slot) (out : bk_Val), lv_has ls 2 [(0, .ref a0)] → bk_H G Y V s.heap H locs → q_X12_goes_328 N Y V a0 sa0 sx1 = some out → W p l e rm_X12_goes s m args below meth c H locs 0 0 (MQ below (bk_Q G none Y out) args s 0 0 (bk_A G)) (F0 m 328 ls [.int sx1, .ref sa0]) := by
  have hx := C.1
  have hb := C.2.1
  intro V a0 sa0 sx1 H locs ls out hl hH hq
  unfold q_X12_goes_328 at hq
  obtain ⟨hs_36, hq⟩ := bk_ck_some hq
  refine bk_puti C hH fp_RX12_160 (fun h => by cases h) hs_36 rfl dX12_goes_328 (fun V_37 H locs e_38 hH => ?_)
  have hq := bk_let_eq e_38 hq
  exact w_X12_goes_331 C _ _ _ _ _ _ (lv_sub hl [0] rfl) hH hq

set_option maxRecDepth 100000 in
set_option maxHeartbeats 4000000 in
theorem w_X12_goes_323 (C : bk_C G p s m args meth c cX12_goes RX12 2 (none : Option FieldType)) : ∀ (V : bk_Val) (a0 : Nat) (sa0 : Nat) (H : Heap) (locs : List Loc) (ls : Array Slot) (out : bk_Val), lv_has ls 2 [(0, .ref a0)] → bk_H G Y V s.heap H locs → q_X12_goes_323 N Y V a0 sa0 = some out → W p l e rm_X12_goes s m args below meth c H locs 0 0 (MQ below (bk_Q G none Y out) args s 0 0 (bk_A G)) (F0 m 323 ls [.ref sa0]) := by
  have hx := C.1
  have hb := C.2.1
  intro V a0 sa0 H locs ls out hl hH hq
  unfold q_X12_goes_323 at hq
  refine lv_iconst (v := 3) hx hb dX12_goes_323 (by decide) ?_
  refine lv_goto (tgt := 328) hx hb dX12_goes_324 (by decide) ?_
  exact w_X12_goes_328 C _ _ _ _ _ _ _ _ (lv_sub hl [0] rfl) hH hq

set_option maxRecDepth 100000 in
set_option maxHeartbeats 4000000 in
theorem w_X12_goes_50 (C : bk_C G p s m args meth c cX12_goes RX12 2 (none : Option FieldType)) : ∀ (V : bk_Val) (a0 : Nat) (H : Heap) (locs : List Loc) (ls : Array Slot) (out : bk_Val), lv_has ls 2 [(0, .ref a0)] → bk_H G Y V s.heap H locs → q_X12_goes_50 N Y V a0 = some out → W p l e rm_X12_goes s m args below meth c H locs 0 0 (MQ below (bk_Q G none Y out) args s 0 0 (bk_A G)) (F0 m 50 ls []) := by
  have hx := C.1
  have hb := C.2.1
  intro V a0 H locs ls out hl hH hq
  unfold q_X12_goes_50 at hq
  refine lv_aload_n hx hb dX12_goes_50 rfl (lv_at hl 0 rfl) ?_
  refine lv_aload_n hx hb dX12_goes_51 rfl (lv_at hl 0 rfl) ?_
  obtain ⟨hs_39, hq⟩ := bk_ck_some hq
  refine bk_geti C hH fl_RX12_140 hs_39 rfl dX12_goes_52 ?_
  refine bk_puti C hH fp_RX12_147 (fun h => by cases h) hs_39 rfl dX12_goes_55 (fun V_40 H locs e_41 hH => ?_)
  have hq := bk_let_eq e_41 hq
  refine lv_aload_n hx hb dX12_goes_58 rfl (lv_at hl 0 rfl) ?_
  refine lv_lconst (v := 0) hx hb dX12_goes_59 (by decide) ?_
  refine bk_putl C hH fp_RX12_150 (fun h => by cases h) hs_39 rfl dX12_goes_60 (fun V_42 H locs e_43 hH => ?_)
  have hq := bk_let_eq e_43 hq
  refine lv_aload_n hx hb dX12_goes_63 rfl (lv_at hl 0 rfl) ?_
  refine lv_iconst (v := 0) hx hb dX12_goes_64 (by decide) ?_
  refine bk_puti C hH fp_RX12_154 (fun h => by cases h) hs_39 rfl dX12_goes_65 (fun V_44 H locs e_45 hH => ?_)
  have hq := bk_let_eq e_45 hq
  refine lv_aload_n hx hb dX12_goes_68 rfl (lv_at hl 0 rfl) ?_
  refine lv_aload_n hx hb dX12_goes_69 rfl (lv_at hl 0 rfl) ?_
  refine bk_geti C hH fl_RX12_140 hs_39 rfl dX12_goes_70 ?_
  obtain ⟨r_47, hr_46, hq⟩ := bk_bd_some hq
  refine bk_callV (rest := []) (As := [.int (bk_rI V_44 a0 25)]) (ro := (some (.int r_47))) (Y1 := Y) (V1 := V_44) C hH hl.1 (c_X12_byteAt hr_46) mc_X12_byteAt mv_X12_byteAt lk_RX12_143 hs_39 rfl rfl ⟨rfl, rfl⟩ ⟨by decide, by decide⟩ rfl (Nat.le_of_ble_eq_true rfl) dX12_goes_73 ⟨by decide, by decide⟩ (fun H locs hH => ?_)
  refine lv_istore_n (lv' := [(1, .int r_47), (0, .ref a0)]) hx hb dX12_goes_76 rfl hl (by decide) rfl (fun ls hl => ?_)
  refine lv_aload_n hx hb dX12_goes_77 rfl (lv_at hl 1 rfl) ?_
  refine lv_iload_n hx hb dX12_goes_78 rfl (lv_at hl 0 rfl) ?_
  refine bk_puti C hH fp_RX12_157 (fun h => by cases h) hs_39 rfl dX12_goes_79 (fun V_48 H locs e_49 hH => ?_)
  have hq := bk_let_eq e_49 hq
  refine lv_aload_n hx hb dX12_goes_82 rfl (lv_at hl 1 rfl) ?_
  refine bk_geti C hH fl_RX12_140 hs_39 rfl dX12_goes_83 ?_
  refine lv_aload_n hx hb dX12_goes_86 rfl (lv_at hl 1 rfl) ?_
  refine bk_geti C hH fl_RX12_137 hs_39 rfl dX12_goes_87 ?_
  refine lv_icmp_lt (tgt := 101) hx hb dX12_goes_90 (by decide) (fun hc_69 => ?_) (fun hc_69 => ?_)
  · rw [if_pos hc_69] at hq
    refine lv_iload_n hx hb dX12_goes_101 rfl (lv_at hl 0 rfl) ?_
    obtain ⟨r_51, hr_50, hq⟩ := bk_bd_some hq
    refine bk_callS (rest := []) (As := [.int r_47]) (ro := (some (.int r_51))) (Y1 := Y) (V1 := V_48) C hH hl.1 (c_X12_isLetter hr_50) mc_X12_isLetter st_X12_isLetter lk_RX12_163 rfl ⟨rfl, rfl⟩ ⟨by decide, by decide⟩ rfl (Nat.le_of_ble_eq_true rfl) dX12_goes_102 ⟨by decide, by decide⟩ (fun H locs hH => ?_)
    refine lv_if_eq (tgt := 180) hx hb dX12_goes_105 (by decide) (fun hc_66 => ?_) (fun hc_66 => ?_)
    · rw [if_pos hc_66] at hq
      refine lv_iload_n hx hb dX12_goes_180 rfl (lv_at hl 0 rfl) ?_
      obtain ⟨r_53, hr_52, hq⟩ := bk_bd_some hq
      refine bk_callS (rest := []) (As := [.int r_47]) (ro := (some (.int r_53))) (Y1 := Y) (V1 := V_48) C hH hl.1 (c_X12_isDigit hr_52) mc_X12_isDigit st_X12_isDigit lk_RX12_167 rfl ⟨rfl, rfl⟩ ⟨by decide, by decide⟩ rfl (Nat.le_of_ble_eq_true rfl) dX12_goes_181 ⟨by decide, by decide⟩ (fun H locs hH => ?_)
      refine lv_if_eq (tgt := 258) hx hb dX12_goes_184 (by decide) (fun hc_65 => ?_) (fun hc_65 => ?_)
      · rw [if_pos hc_65] at hq
        refine lv_aload_n hx hb dX12_goes_258 rfl (lv_at hl 1 rfl) ?_
        refine lv_dup hx hb dX12_goes_259 rfl ?_
        refine bk_geti C hH fl_RX12_140 hs_39 rfl dX12_goes_260 ?_
        refine lv_iconst (v := 1) hx hb dX12_goes_263 (by decide) ?_
        refine lv_iadd hx hb dX12_goes_264 ?_
        refine bk_puti C hH fp_RX12_140 (fun h => by cases h) hs_39 rfl dX12_goes_265 (fun V_54 H locs e_55 hH => ?_)
        have hq := bk_let_eq e_55 hq
        refine lv_aload_n hx hb dX12_goes_268 rfl (lv_at hl 1 rfl) ?_
        refine lv_iload_n hx hb dX12_goes_269 rfl (lv_at hl 0 rfl) ?_
        refine lv_bipush (v := 59) hx hb dX12_goes_270 (by decide) ?_
        refine lv_icmp_eq (tgt := 323) hx hb dX12_goes_272 (by decide) (fun hc_64 => ?_) (fun hc_64 => ?_)
        · rw [if_pos hc_64] at hq
          exact w_X12_goes_323 C _ _ _ _ _ _ _ (lv_sub hl [1] rfl) hH hq
        · rw [if_neg hc_64] at hq
          refine lv_iload_n hx hb dX12_goes_275 rfl (lv_at hl 0 rfl) ?_
          refine lv_bipush (v := 40) hx hb dX12_goes_276 (by decide) ?_
          refine lv_icmp_eq (tgt := 323) hx hb dX12_goes_278 (by decide) (fun hc_63 => ?_) (fun hc_63 => ?_)
          · rw [if_pos hc_63] at hq
            exact w_X12_goes_323 C _ _ _ _ _ _ _ (lv_sub hl [1] rfl) hH hq
          · rw [if_neg hc_63] at hq
            refine lv_iload_n hx hb dX12_goes_281 rfl (lv_at hl 0 rfl) ?_
            refine lv_bipush (v := 41) hx hb dX12_goes_282 (by decide) ?_
            refine lv_icmp_eq (tgt := 323) hx hb dX12_goes_284 (by decide) (fun hc_62 => ?_) (fun hc_62 => ?_)
            · rw [if_pos hc_62] at hq
              exact w_X12_goes_323 C _ _ _ _ _ _ _ (lv_sub hl [1] rfl) hH hq
            · rw [if_neg hc_62] at hq
              refine lv_iload_n hx hb dX12_goes_287 rfl (lv_at hl 0 rfl) ?_
              refine lv_bipush (v := 43) hx hb dX12_goes_288 (by decide) ?_
              refine lv_icmp_eq (tgt := 323) hx hb dX12_goes_290 (by decide) (fun hc_61 => ?_) (fun hc_61 => ?_)
              · rw [if_pos hc_61] at hq
                exact w_X12_goes_323 C _ _ _ _ _ _ _ (lv_sub hl [1] rfl) hH hq
              · rw [if_neg hc_61] at hq
                refine lv_iload_n hx hb dX12_goes_293 rfl (lv_at hl 0 rfl) ?_
                refine lv_bipush (v := 45) hx hb dX12_goes_294 (by decide) ?_
                refine lv_icmp_eq (tgt := 323) hx hb dX12_goes_296 (by decide) (fun hc_60 => ?_) (fun hc_60 => ?_)
                · rw [if_pos hc_60] at hq
                  exact w_X12_goes_323 C _ _ _ _ _ _ _ (lv_sub hl [1] rfl) hH hq
                · rw [if_neg hc_60] at hq
                  refine lv_iload_n hx hb dX12_goes_299 rfl (lv_at hl 0 rfl) ?_
                  refine lv_bipush (v := 42) hx hb dX12_goes_300 (by decide) ?_
                  refine lv_icmp_eq (tgt := 323) hx hb dX12_goes_302 (by decide) (fun hc_59 => ?_) (fun hc_59 => ?_)
                  · rw [if_pos hc_59] at hq
                    exact w_X12_goes_323 C _ _ _ _ _ _ _ (lv_sub hl [1] rfl) hH hq
                  · rw [if_neg hc_59] at hq
                    refine lv_iload_n hx hb dX12_goes_305 rfl (lv_at hl 0 rfl) ?_
                    refine lv_bipush (v := 47) hx hb dX12_goes_306 (by decide) ?_
                    refine lv_icmp_eq (tgt := 323) hx hb dX12_goes_308 (by decide) (fun hc_58 => ?_) (fun hc_58 => ?_)
                    · rw [if_pos hc_58] at hq
                      exact w_X12_goes_323 C _ _ _ _ _ _ _ (lv_sub hl [1] rfl) hH hq
                    · rw [if_neg hc_58] at hq
                      refine lv_iload_n hx hb dX12_goes_311 rfl (lv_at hl 0 rfl) ?_
                      refine lv_bipush (v := 60) hx hb dX12_goes_312 (by decide) ?_
                      refine lv_icmp_eq (tgt := 323) hx hb dX12_goes_314 (by decide) (fun hc_57 => ?_) (fun hc_57 => ?_)
                      · rw [if_pos hc_57] at hq
                        exact w_X12_goes_323 C _ _ _ _ _ _ _ (lv_sub hl [1] rfl) hH hq
                      · rw [if_neg hc_57] at hq
                        refine lv_iload_n hx hb dX12_goes_317 rfl (lv_at hl 0 rfl) ?_
                        refine lv_bipush (v := 61) hx hb dX12_goes_318 (by decide) ?_
                        refine lv_icmp_ne (tgt := 327) hx hb dX12_goes_320 (by decide) (fun hc_56 => ?_) (fun hc_56 => ?_)
                        · rw [if_neg hc_56] at hq
                          refine lv_iconst (v := 4) hx hb dX12_goes_327 (by decide) ?_
                          exact w_X12_goes_328 C _ _ _ _ _ _ _ _ (lv_sub hl [1] rfl) hH hq
                        · rw [if_pos hc_56] at hq
                          exact w_X12_goes_323 C _ _ _ _ _ _ _ (lv_sub hl [1] rfl) hH hq
      · rw [if_neg hc_65] at hq
        exact w_X12_goes_187 C _ _ _ _ _ _ _ (lv_sub hl [1] rfl) hH hq
    · rw [if_neg hc_66] at hq
      exact w_X12_goes_108 C _ _ _ _ _ _ _ (lv_sub hl [1] rfl) hH hq
  · rw [if_neg hc_69] at hq
    refine lv_aload_n hx hb dX12_goes_93 rfl (lv_at hl 1 rfl) ?_
    refine lv_iconst (v := 0) hx hb dX12_goes_94 (by decide) ?_
    refine bk_puti C hH fp_RX12_160 (fun h => by cases h) hs_39 rfl dX12_goes_95 (fun V_67 H locs e_68 hH => ?_)
    have hq := bk_let_eq e_68 hq
    refine lv_goto (tgt := 331) hx hb dX12_goes_98 (by decide) ?_
    exact w_X12_goes_331 C _ _ _ _ _ _ (lv_sub hl [1] rfl) hH hq

set_option maxRecDepth 100000 in
set_option maxHeartbeats 4000000 in
theorem w_X12_goes_37 (C : bk_C G p s m args meth c cX12_goes RX12 2 (none : Option FieldType)) (k0 : bk_Val → Nat → Option (bk_Val)) (i0 : ∀ (V : bk_Val) (a0 : Nat) (H : Heap) (locs : List Loc) (ls : Array Slot) (out : bk_Val), lv_has ls 2 [(0, .ref a0)] → bk_H G Y V s.heap H locs → k0 V a0 = some out → W p l e rm_X12_goes s m args below meth c H locs 0 0 (MQ below (bk_Q G none Y out) args s 0 0 (bk_A G)) (F0 m 0 ls [])) : ∀ (V : bk_Val) (a0 : Nat) (H : Heap) (locs : List Loc) (ls : Array Slot) (out : bk_Val), lv_has ls 2 [(0, .ref a0)] → bk_H G Y V s.heap H locs → q_X12_goes_37 N Y k0 V a0 = some out → W p l e rm_X12_goes s m args below meth c H locs 0 0 (MQ below (bk_Q G none Y out) args s 0 0 (bk_A G)) (F0 m 37 ls []) := by
  have hx := C.1
  have hb := C.2.1
  intro V a0 H locs ls out hl hH hq
  unfold q_X12_goes_37 at hq
  refine lv_aload_n hx hb dX12_goes_37 rfl (lv_at hl 0 rfl) ?_
  refine lv_dup hx hb dX12_goes_38 rfl ?_
  obtain ⟨hs_70, hq⟩ := bk_ck_some hq
  refine bk_geti C hH fl_RX12_140 hs_70 rfl dX12_goes_39 ?_
  refine lv_iconst (v := 1) hx hb dX12_goes_42 (by decide) ?_
  refine lv_iadd hx hb dX12_goes_43 ?_
  refine bk_puti C hH fp_RX12_140 (fun h => by cases h) hs_70 rfl dX12_goes_44 (fun V_71 H locs e_72 hH => ?_)
  have hq := bk_let_eq e_72 hq
  refine lv_goto (tgt := 0) hx hb dX12_goes_47 (by decide) ?_
  exact i0 _ _ _ _ _ _ (lv_sub hl [0] rfl) hH hq

set_option maxRecDepth 100000 in
set_option maxHeartbeats 4000000 in
theorem w_X12_goes_0 (C : bk_C G p s m args meth c cX12_goes RX12 2 (none : Option FieldType)) : ∀ (n : Nat), ∀ (V : bk_Val) (a0 : Nat) (H : Heap) (locs : List Loc) (ls : Array Slot) (out : bk_Val), lv_has ls 2 [(0, .ref a0)] → bk_H G Y V s.heap H locs → q_X12_goes_0 N Y n V a0 = some out → W p l e rm_X12_goes s m args below meth c H locs 0 0 (MQ below (bk_Q G none Y out) args s 0 0 (bk_A G)) (F0 m 0 ls []) := by
  have hx := C.1
  have hb := C.2.1
  intro n
  induction n with
  | zero =>
    intro V a0 H locs ls out hl hH hq
    exact nomatch (show (none : Option (bk_Val)) = some out from hq)
  | succ n ih =>
    intro V a0 H locs ls out hl hH hq
    unfold q_X12_goes_0 at hq
    refine lv_aload_n hx hb dX12_goes_0 rfl (lv_at hl 0 rfl) ?_
    obtain ⟨hs_73, hq⟩ := bk_ck_some hq
    refine bk_geti C hH fl_RX12_140 hs_73 rfl dX12_goes_1 ?_
    refine lv_aload_n hx hb dX12_goes_4 rfl (lv_at hl 0 rfl) ?_
    refine bk_geti C hH fl_RX12_137 hs_73 rfl dX12_goes_5 ?_
    refine lv_icmp_ge (tgt := 50) hx hb dX12_goes_8 (by decide) (fun hc_80 => ?_) (fun hc_80 => ?_)
    · rw [if_pos hc_80] at hq
      exact w_X12_goes_50 C _ _ _ _ _ _ (lv_sub hl [0] rfl) hH hq
    · rw [if_neg hc_80] at hq
      refine lv_aload_n hx hb dX12_goes_11 rfl (lv_at hl 0 rfl) ?_
      refine lv_aload_n hx hb dX12_goes_12 rfl (lv_at hl 0 rfl) ?_
      refine bk_geti C hH fl_RX12_140 hs_73 rfl dX12_goes_13 ?_
      obtain ⟨r_75, hr_74, hq⟩ := bk_bd_some hq
      refine bk_callV (rest := []) (As := [.int (bk_rI V a0 25)]) (ro := (some (.int r_75))) (Y1 := Y) (V1 := V) C hH hl.1 (c_X12_byteAt hr_74) mc_X12_byteAt mv_X12_byteAt lk_RX12_143 hs_73 rfl rfl ⟨rfl, rfl⟩ ⟨by decide, by decide⟩ rfl (Nat.le_of_ble_eq_true rfl) dX12_goes_16 ⟨by decide, by decide⟩ (fun H locs hH => ?_)
      refine lv_bipush (v := 32) hx hb dX12_goes_19 (by decide) ?_
      refine lv_icmp_eq (tgt := 37) hx hb dX12_goes_21 (by decide) (fun hc_79 => ?_) (fun hc_79 => ?_)
      · rw [if_pos hc_79] at hq
        exact w_X12_goes_37 C _ ih _ _ _ _ _ _ (lv_sub hl [0] rfl) hH hq
      · rw [if_neg hc_79] at hq
        refine lv_aload_n hx hb dX12_goes_24 rfl (lv_at hl 0 rfl) ?_
        refine lv_aload_n hx hb dX12_goes_25 rfl (lv_at hl 0 rfl) ?_
        refine bk_geti C hH fl_RX12_140 hs_73 rfl dX12_goes_26 ?_
        obtain ⟨r_77, hr_76, hq⟩ := bk_bd_some hq
        refine bk_callV (rest := []) (As := [.int (bk_rI V a0 25)]) (ro := (some (.int r_77))) (Y1 := Y) (V1 := V) C hH hl.1 (c_X12_byteAt hr_76) mc_X12_byteAt mv_X12_byteAt lk_RX12_143 hs_73 rfl rfl ⟨rfl, rfl⟩ ⟨by decide, by decide⟩ rfl (Nat.le_of_ble_eq_true rfl) dX12_goes_29 ⟨by decide, by decide⟩ (fun H locs hH => ?_)
        refine lv_bipush (v := 10) hx hb dX12_goes_32 (by decide) ?_
        refine lv_icmp_ne (tgt := 50) hx hb dX12_goes_34 (by decide) (fun hc_78 => ?_) (fun hc_78 => ?_)
        · rw [if_neg hc_78] at hq
          exact w_X12_goes_50 C _ _ _ _ _ _ (lv_sub hl [0] rfl) hH hq
        · rw [if_pos hc_78] at hq
          exact w_X12_goes_37 C _ ih _ _ _ _ _ _ (lv_sub hl [0] rfl) hH hq
set_option maxRecDepth 100000 in
theorem c_X12_goes {l : Launch} {G : bk_G} {N : Nat} {Y : bk_Lay} {V : bk_Val} {a0 : Nat} {out : bk_Val} (hq : q_X12_goes N Y V a0 = some out) : Met l yX12_goes (bk_ws yX12_goes cX12_goes 2 (none : Option FieldType)) rm_X12_goes (bk_Pc G [.ref a0] Y V) (bk_Q G none Y out) 0 0 (bk_A G) :=
  bk_met (by decide) (Nat.le_of_ble_eq_true rfl) (fun p e s m args below meth c ls C hnm hH hl => w_X12_goes_0 C _ _ _ _ _ _ _ hl hH hq)

def rm_X12_number : Room := bk_rm 2 0 0 42
set_option maxRecDepth 100000 in
set_option maxHeartbeats 4000000 in
theorem w_X12_number_54 (C : bk_C G p s m args meth c cX12_number RX12 4 (some FieldType.int)) : ∀ (V : bk_Val) (a0 : Nat) (H : Heap) (locs : List Loc) (ls : Array Slot) (out : Int32 × bk_Val), lv_has ls 4 [(0, .ref a0)] → bk_H G Y V s.heap H locs → q_X12_number_54 N Y V a0 = some out → W p l e rm_X12_number s m args below meth c H locs 0 0 (MQ below (bk_Q G (some (.int out.1)) Y out.2) args s 0 0 (bk_A G)) (F0 m 54 ls []) := by
  have hx := C.1
  have hb := C.2.1
  intro V a0 H locs ls out hl hH hq
  unfold q_X12_number_54 at hq
  refine lv_aload_n hx hb dX12_number_54 rfl (lv_at hl 0 rfl) ?_
  obtain ⟨hs_1, hq⟩ := bk_ck_some hq
  refine bk_geti C hH fl_RX12_154 hs_1 rfl dX12_number_55 ?_
  refine lv_istore_n (lv' := [(3, .int (bk_rI V a0 29)), (0, .ref a0)]) hx hb dX12_number_58 rfl hl (by decide) rfl (fun ls hl => ?_)
  refine lv_aload_n hx hb dX12_number_59 rfl (lv_at hl 1 rfl) ?_
  obtain ⟨r_3, hr_2, hq⟩ := bk_bd_some hq
  refine bk_callV (rest := []) (As := []) (ro := (some (.int r_3))) (Y1 := Y) (V1 := V) C hH hl.1 (c_X12_isGood hr_2) mc_X12_isGood mv_X12_isGood lk_RX12_186 hs_1 rfl rfl ⟨rfl, rfl⟩ ⟨by decide, by decide⟩ rfl (Nat.le_of_ble_eq_true rfl) dX12_number_60 ⟨by decide, by decide⟩ (fun H locs hH => ?_)
  refine lv_if_eq (tgt := 70) hx hb dX12_number_63 (by decide) (fun hc_6 => ?_) (fun hc_6 => ?_)
  · rw [if_pos hc_6] at hq
    refine lv_iload_n hx hb dX12_number_70 rfl (lv_at hl 0 rfl) ?_
    cases hq
    exact bk_iret C hH dX12_number_71
  · rw [if_neg hc_6] at hq
    refine lv_aload_n hx hb dX12_number_66 rfl (lv_at hl 1 rfl) ?_
    obtain ⟨V_5, hr_4, hq⟩ := bk_bd_some hq
    refine bk_callV (rest := []) (As := []) (ro := none) (Y1 := Y) (V1 := V_5) C hH hl.1 (c_X12_goes hr_4) mc_X12_goes mv_X12_goes lk_RX12_190 hs_1 rfl rfl ⟨rfl, rfl⟩ ⟨by decide, by decide⟩ rfl (Nat.le_of_ble_eq_true rfl) dX12_number_67 ⟨by decide, by decide⟩ (fun H locs hH => ?_)
    refine lv_iload_n hx hb dX12_number_70 rfl (lv_at hl 0 rfl) ?_
    cases hq
    exact bk_iret C hH dX12_number_71

set_option maxRecDepth 100000 in
set_option maxHeartbeats 4000000 in
theorem w_X12_number_49 (C : bk_C G p s m args meth c cX12_number RX12 4 (some FieldType.int)) : ∀ (V : bk_Val) (a0 : Nat) (H : Heap) (locs : List Loc) (ls : Array Slot) (out : Int32 × bk_Val), lv_has ls 4 [(0, .ref a0)] → bk_H G Y V s.heap H locs → q_X12_number_49 N Y V a0 = some out → W p l e rm_X12_number s m args below meth c H locs 0 0 (MQ below (bk_Q G (some (.int out.1)) Y out.2) args s 0 0 (bk_A G)) (F0 m 49 ls []) := by
  have hx := C.1
  have hb := C.2.1
  intro V a0 H locs ls out hl hH hq
  unfold q_X12_number_49 at hq
  refine lv_aload_n hx hb dX12_number_49 rfl (lv_at hl 0 rfl) ?_
  refine lv_iconst (v := 2) hx hb dX12_number_50 (by decide) ?_
  obtain ⟨hs_9, hq⟩ := bk_ck_some hq
  obtain ⟨V_8, hr_7, hq⟩ := bk_bd_some hq
  refine bk_callV (rest := []) (As := [.int 2]) (ro := none) (Y1 := Y) (V1 := V_8) C hH hl.1 (c_X12_wrong hr_7) mc_X12_wrong mv_X12_wrong lk_RX12_193 hs_9 rfl rfl ⟨rfl, rfl⟩ ⟨by decide, by decide⟩ rfl (Nat.le_of_ble_eq_true rfl) dX12_number_51 ⟨by decide, by decide⟩ (fun H locs hH => ?_)
  exact w_X12_number_54 C _ _ _ _ _ _ (lv_sub hl [0] rfl) hH hq

set_option maxRecDepth 100000 in
set_option maxHeartbeats 4000000 in
theorem w_X12_number (C : bk_C G p s m args meth c cX12_number RX12 4 (some FieldType.int)) : ∀ (V : bk_Val) (a0 : Nat) (x1 : Int32) (x2 : Int32) (H : Heap) (locs : List Loc) (ls : Array Slot) (out : Int32 × bk_Val), lv_has ls 4 [(0, .ref a0), (1, .int x1), (2, .int x2)] → bk_H G Y V s.heap H locs → q_X12_number N Y V a0 x1 x2 = some out → W p l e rm_X12_number s m args below meth c H locs 0 0 (MQ below (bk_Q G (some (.int out.1)) Y out.2) args s 0 0 (bk_A G)) (F0 m 0 ls []) := by
  have hx := C.1
  have hb := C.2.1
  intro V a0 x1 x2 H locs ls out hl hH hq
  unfold q_X12_number at hq
  refine lv_aload_n hx hb dX12_number_0 rfl (lv_at hl 0 rfl) ?_
  obtain ⟨hs_12, hq⟩ := bk_ck_some hq
  obtain ⟨r_11, hr_10, hq⟩ := bk_bd_some hq
  refine bk_callV (rest := []) (As := []) (ro := (some (.int r_11))) (Y1 := Y) (V1 := V) C hH hl.1 (c_X12_isGood hr_10) mc_X12_isGood mv_X12_isGood lk_RX12_186 hs_12 rfl rfl ⟨rfl, rfl⟩ ⟨by decide, by decide⟩ rfl (Nat.le_of_ble_eq_true rfl) dX12_number_1 ⟨by decide, by decide⟩ (fun H locs hH => ?_)
  refine lv_if_ne (tgt := 9) hx hb dX12_number_4 (by decide) (fun hc_19 => ?_) (fun hc_19 => ?_)
  · rw [if_neg hc_19] at hq
    refine lv_aload_n hx hb dX12_number_9 rfl (lv_at hl 0 rfl) ?_
    refine bk_geti C hH fl_RX12_160 hs_12 rfl dX12_number_10 ?_
    refine lv_iconst (v := 2) hx hb dX12_number_13 (by decide) ?_
    refine lv_icmp_eq (tgt := 25) hx hb dX12_number_14 (by decide) (fun hc_18 => ?_) (fun hc_18 => ?_)
    · rw [if_pos hc_18] at hq
      refine lv_aload_n hx hb dX12_number_25 rfl (lv_at hl 0 rfl) ?_
      refine bk_geti C hH fl_RX12_170 hs_12 rfl dX12_number_26 ?_
      refine lv_iconst (v := 4) hx hb dX12_number_29 (by decide) ?_
      refine lv_icmp_gt (tgt := 49) hx hb dX12_number_30 (by decide) (fun hc_15 => ?_) (fun hc_15 => ?_)
      · rw [if_pos hc_15] at hq
        exact w_X12_number_49 C _ _ _ _ _ _ (lv_sub hl [0] rfl) hH hq
      · rw [if_neg hc_15] at hq
        refine lv_aload_n hx hb dX12_number_33 rfl (lv_at hl 0 rfl) ?_
        refine bk_geti C hH fl_RX12_154 hs_12 rfl dX12_number_34 ?_
        refine lv_iload_n hx hb dX12_number_37 rfl (lv_at hl 1 rfl) ?_
        refine lv_icmp_lt (tgt := 49) hx hb dX12_number_38 (by decide) (fun hc_14 => ?_) (fun hc_14 => ?_)
        · rw [if_pos hc_14] at hq
          exact w_X12_number_49 C _ _ _ _ _ _ (lv_sub hl [0] rfl) hH hq
        · rw [if_neg hc_14] at hq
          refine lv_aload_n hx hb dX12_number_41 rfl (lv_at hl 0 rfl) ?_
          refine bk_geti C hH fl_RX12_154 hs_12 rfl dX12_number_42 ?_
          refine lv_iload_n hx hb dX12_number_45 rfl (lv_at hl 2 rfl) ?_
          refine lv_icmp_le (tgt := 54) hx hb dX12_number_46 (by decide) (fun hc_13 => ?_) (fun hc_13 => ?_)
          · rw [if_pos hc_13] at hq
            exact w_X12_number_54 C _ _ _ _ _ _ (lv_sub hl [0] rfl) hH hq
          · rw [if_neg hc_13] at hq
            exact w_X12_number_49 C _ _ _ _ _ _ (lv_sub hl [0] rfl) hH hq
    · rw [if_neg hc_18] at hq
      refine lv_aload_n hx hb dX12_number_17 rfl (lv_at hl 0 rfl) ?_
      refine lv_iconst (v := 1) hx hb dX12_number_18 (by decide) ?_
      obtain ⟨V_17, hr_16, hq⟩ := bk_bd_some hq
      refine bk_callV (rest := []) (As := [.int 1]) (ro := none) (Y1 := Y) (V1 := V_17) C hH hl.1 (c_X12_wrong hr_16) mc_X12_wrong mv_X12_wrong lk_RX12_193 hs_12 rfl rfl ⟨rfl, rfl⟩ ⟨by decide, by decide⟩ rfl (Nat.le_of_ble_eq_true rfl) dX12_number_19 ⟨by decide, by decide⟩ (fun H locs hH => ?_)
      refine lv_goto (tgt := 54) hx hb dX12_number_22 (by decide) ?_
      exact w_X12_number_54 C _ _ _ _ _ _ (lv_sub hl [0] rfl) hH hq
  · rw [if_pos hc_19] at hq
    refine lv_iconst (v := 0) hx hb dX12_number_7 (by decide) ?_
    cases hq
    exact bk_iret C hH dX12_number_8
set_option maxRecDepth 100000 in
theorem c_X12_number {l : Launch} {G : bk_G} {N : Nat} {Y : bk_Lay} {V : bk_Val} {a0 : Nat} {x1 : Int32} {x2 : Int32} {out : Int32 × bk_Val} (hq : q_X12_number N Y V a0 x1 x2 = some out) : Met l yX12_number (bk_ws yX12_number cX12_number 4 (some FieldType.int)) rm_X12_number (bk_Pc G [.ref a0, .int x1, .int x2] Y V) (bk_Q G (some (.int out.1)) Y out.2) 0 0 (bk_A G) :=
  bk_met (by decide) (Nat.le_of_ble_eq_true rfl) (fun p e s m args below meth c ls C hnm hH hl => w_X12_number C _ _ _ _ _ _ _ _ hl hH hq)
end
