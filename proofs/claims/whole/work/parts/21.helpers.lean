def rm_L_shed : Room := bk_rm 87 3 347 2001
set_option maxRecDepth 100000 in
set_option maxHeartbeats 4000000 in
theorem h_L_shed {l : Launch} {G : bk_G} {N : Nat} {Y : bk_Lay} {V : bk_Val} (hst : l.stackTraces = false) {a0 : Nat} {x1 : Int32} {a2 : Nat} {out : Nat ⊕ (Int32 × bk_Lay × bk_Val)} (hq : q_X11_shed N Y V a0 x1 = some out) (hs : bk_sh Y a0 = (1, 10)) (he : ∀ e, out = .inl e → e = 2) (ho : ∀ o, out = .inr o → bk_sh ((fun o : Int32 × bk_Lay × bk_Val => (o.1.toInt64, o.2.1, o.2.2)) o).2.1 a2 = (3, 1)) : vx_Met l yL_shed (bk_wh yL_shed cL_shed 4 (some FieldType.int) [(0, 9, 12, 13)]) rm_L_shed (bk_Pc G [.ref a0, .int x1, .ref a2] Y V) (bk_QR G (bk_hr Y V a2 (fun _ => 1) (bk_on (fun o : Int32 × bk_Lay × bk_Val => (o.1.toInt64, o.2.1, o.2.2)) out))) bk_nx 3 347 (bk_A G) := by
  refine bk_meth (by decide) (Nat.le_of_ble_eq_true rfl) (fun p e s m args below meth c ls C hT hH hl => ?_)
  have hx := C.1
  have hb := C.2.1
  refine lv_aload_n hx hb dL_shed_0 rfl (lv_at hl 2 rfl) ?_
  refine lv_iconst (v := 0) hx hb dL_shed_1 (by decide) ?_
  refine lv_aload_n hx hb dL_shed_2 rfl (lv_at hl 0 rfl) ?_
  refine lv_iload_n hx hb dL_shed_3 rfl (lv_at hl 1 rfl) ?_
  cases out with
  | inl e9 =>
    obtain rfl := he e9 rfl
    refine bk_callVk (rest := [.int 0, .ref a2]) (As := [.int x1]) (e9 := 2) C hH hl.1 (c_X11_shed hst hq) mc_X11_shed mv_X11_shed lw_RL_7 hs rfl rfl ⟨rfl, rfl⟩ ⟨by decide, by decide⟩ rfl (Nat.le_of_ble_eq_true rfl) dL_shed_4 ⟨by decide, by decide⟩ [] ⟨0, 9, 12, 13⟩ [] hT (fun z hz => nomatch hz) (by decide) (by decide) lc_RL_13 (by decide +kernel) (fun q9 z9 H locs hz9 hH => ?_)
    refine lv_astore_n (lv' := [(3, .ref q9), (0, .ref a0), (1, .int x1), (2, .ref a2)]) hx hb dL_shed_12 rfl hl (by decide) rfl (fun ls hl => ?_)
    refine lv_iconst (v := 1) hx hb dL_shed_13 (by decide) ?_
    exact bk_qr ⟨by decide, rfl, z9, hz9, rfl⟩ (bk_iret C hH dL_shed_14)
  | inr o9 =>
    have ho9 := ho o9 rfl
    refine bk_callVr (f := fun (o : Int32 × bk_Lay × bk_Val) => bk_Q G (some (.int o.1)) o.2.1 o.2.2) (o1 := o9) (rest := [.int 0, .ref a2]) (As := [.int x1]) (ro := some (.int o9.1)) (Y1 := o9.2.1) (V1 := o9.2.2) rfl C hH hl.1 (c_X11_shed hst hq) mc_X11_shed mv_X11_shed lw_RL_7 hs rfl rfl ⟨rfl, rfl⟩ ⟨by decide, by decide⟩ rfl (Nat.le_of_ble_eq_true rfl) dL_shed_4 ⟨by decide, by decide⟩ (fun H locs hH => ?_)
    refine lv_i2l hx hb dL_shed_7 rfl ?_
    refine bk_last C hH ho9 bk_in01 dL_shed_8 (fun V9 H locs e9 hH => ?_)
    refine lv_goto (tgt := 15) hx hb dL_shed_9 (by decide) ?_
    refine lv_iconst (v := 0) hx hb dL_shed_15 (by decide) ?_
    exact bk_qr ⟨rfl, rfl, e9⟩ (bk_iret C hH dL_shed_16)
def rm_L_count : Room := bk_rm 9 1 6 221
set_option maxRecDepth 100000 in
set_option maxHeartbeats 4000000 in
theorem h_L_count {l : Launch} {G : bk_G} {N : Nat} {Y : bk_Lay} {V : bk_Val} (hst : l.stackTraces = false) {a0 : Nat} {x1 : Int32} {a2 : Nat} {out : Nat ⊕ (Int32)} (hq : q_X11_count N Y V a0 x1 = some out) (hs : bk_sh Y a0 = (1, 10)) (he : ∀ e, out = .inl e → e = 1) (ho : ∀ o, out = .inr o → bk_sh ((fun o : Int32 => (o.toInt64, Y, V)) o).2.1 a2 = (3, 1)) : vx_Met l yL_count (bk_wh yL_count cL_count 4 (some FieldType.int) [(0, 9, 12, 18)]) rm_L_count (bk_Pc G [.ref a0, .int x1, .ref a2] Y V) (bk_QR G (bk_hr Y V a2 (fun _ => 1) (bk_on (fun o : Int32 => (o.toInt64, Y, V)) out))) bk_nx 1 6 (bk_A G) := by
  refine bk_meth (by decide) (Nat.le_of_ble_eq_true rfl) (fun p e s m args below meth c ls C hT hH hl => ?_)
  have hx := C.1
  have hb := C.2.1
  refine lv_aload_n hx hb dL_count_0 rfl (lv_at hl 2 rfl) ?_
  refine lv_iconst (v := 0) hx hb dL_count_1 (by decide) ?_
  refine lv_aload_n hx hb dL_count_2 rfl (lv_at hl 0 rfl) ?_
  refine lv_iload_n hx hb dL_count_3 rfl (lv_at hl 1 rfl) ?_
  cases out with
  | inl e9 =>
    obtain rfl := he e9 rfl
    refine bk_callVk (rest := [.int 0, .ref a2]) (As := [.int x1]) (e9 := 1) C hH hl.1 (c_X11_count hst hq) mc_X11_count mv_X11_count lw_RL_15 hs rfl rfl ⟨rfl, rfl⟩ ⟨by decide, by decide⟩ rfl (Nat.le_of_ble_eq_true rfl) dL_count_4 ⟨by decide, by decide⟩ [] ⟨0, 9, 12, 18⟩ [] hT (fun z hz => nomatch hz) (by decide) (by decide) lc_RL_18 (by decide +kernel) (fun q9 z9 H locs hz9 hH => ?_)
    refine lv_astore_n (lv' := [(3, .ref q9), (0, .ref a0), (1, .int x1), (2, .ref a2)]) hx hb dL_count_12 rfl hl (by decide) rfl (fun ls hl => ?_)
    refine lv_iconst (v := 1) hx hb dL_count_13 (by decide) ?_
    exact bk_qr ⟨by decide, rfl, z9, hz9, rfl⟩ (bk_iret C hH dL_count_14)
  | inr o9 =>
    have ho9 := ho o9 rfl
    refine bk_callVr (f := fun (o : Int32) => bk_Q G (some (.int o)) Y V) (o1 := o9) (rest := [.int 0, .ref a2]) (As := [.int x1]) (ro := some (.int o9)) (Y1 := Y) (V1 := V) rfl C hH hl.1 (c_X11_count hst hq) mc_X11_count mv_X11_count lw_RL_15 hs rfl rfl ⟨rfl, rfl⟩ ⟨by decide, by decide⟩ rfl (Nat.le_of_ble_eq_true rfl) dL_count_4 ⟨by decide, by decide⟩ (fun H locs hH => ?_)
    refine lv_i2l hx hb dL_count_7 rfl ?_
    refine bk_last C hH ho9 bk_in01 dL_count_8 (fun V9 H locs e9 hH => ?_)
    refine lv_goto (tgt := 15) hx hb dL_count_9 (by decide) ?_
    refine lv_iconst (v := 0) hx hb dL_count_15 (by decide) ?_
    exact bk_qr ⟨rfl, rfl, e9⟩ (bk_iret C hH dL_count_16)
def rm_L_hole : Room := bk_rm 11 2 12 263
set_option maxRecDepth 100000 in
set_option maxHeartbeats 4000000 in
theorem h_L_hole {l : Launch} {G : bk_G} {N : Nat} {Y : bk_Lay} {V : bk_Val} (hst : l.stackTraces = false) {a0 : Nat} {x1 : Int32} {x2 : Int32} {a3 : Nat} {out : Nat ⊕ (Int32)} (hq : q_X11_hole N Y V a0 x1 x2 = some out) (hs : bk_sh Y a0 = (1, 10)) (he : ∀ e, out = .inl e → e = 1) (ho : ∀ o, out = .inr o → bk_sh ((fun o : Int32 => (o.toInt64, Y, V)) o).2.1 a3 = (3, 1)) : vx_Met l yL_hole (bk_wh yL_hole cL_hole 5 (some FieldType.int) [(0, 10, 13, 18)]) rm_L_hole (bk_Pc G [.ref a0, .int x1, .int x2, .ref a3] Y V) (bk_QR G (bk_hr Y V a3 (fun _ => 1) (bk_on (fun o : Int32 => (o.toInt64, Y, V)) out))) bk_nx 2 12 (bk_A G) := by
  refine bk_meth (by decide) (Nat.le_of_ble_eq_true rfl) (fun p e s m args below meth c ls C hT hH hl => ?_)
  have hx := C.1
  have hb := C.2.1
  refine lv_aload_n hx hb dL_hole_0 rfl (lv_at hl 3 rfl) ?_
  refine lv_iconst (v := 0) hx hb dL_hole_1 (by decide) ?_
  refine lv_aload_n hx hb dL_hole_2 rfl (lv_at hl 0 rfl) ?_
  refine lv_iload_n hx hb dL_hole_3 rfl (lv_at hl 1 rfl) ?_
  refine lv_iload_n hx hb dL_hole_4 rfl (lv_at hl 2 rfl) ?_
  cases out with
  | inl e9 =>
    obtain rfl := he e9 rfl
    refine bk_callVk (rest := [.int 0, .ref a3]) (As := [.int x1, .int x2]) (e9 := 1) C hH hl.1 (c_X11_hole hst hq) mc_X11_hole mv_X11_hole lw_RL_20 hs rfl rfl ⟨rfl, rfl⟩ ⟨by decide, by decide⟩ rfl (Nat.le_of_ble_eq_true rfl) dL_hole_5 ⟨by decide, by decide⟩ [] ⟨0, 10, 13, 18⟩ [] hT (fun z hz => nomatch hz) (by decide) (by decide) lc_RL_18 (by decide +kernel) (fun q9 z9 H locs hz9 hH => ?_)
    refine lv_astore (lv' := [(4, .ref q9), (0, .ref a0), (1, .int x1), (2, .int x2), (3, .ref a3)]) hx hb dL_hole_13 hl (by decide) rfl (fun ls hl => ?_)
    refine lv_iconst (v := 1) hx hb dL_hole_15 (by decide) ?_
    exact bk_qr ⟨by decide, rfl, z9, hz9, rfl⟩ (bk_iret C hH dL_hole_16)
  | inr o9 =>
    have ho9 := ho o9 rfl
    refine bk_callVr (f := fun (o : Int32) => bk_Q G (some (.int o)) Y V) (o1 := o9) (rest := [.int 0, .ref a3]) (As := [.int x1, .int x2]) (ro := some (.int o9)) (Y1 := Y) (V1 := V) rfl C hH hl.1 (c_X11_hole hst hq) mc_X11_hole mv_X11_hole lw_RL_20 hs rfl rfl ⟨rfl, rfl⟩ ⟨by decide, by decide⟩ rfl (Nat.le_of_ble_eq_true rfl) dL_hole_5 ⟨by decide, by decide⟩ (fun H locs hH => ?_)
    refine lv_i2l hx hb dL_hole_8 rfl ?_
    refine bk_last C hH ho9 bk_in01 dL_hole_9 (fun V9 H locs e9 hH => ?_)
    refine lv_goto (tgt := 17) hx hb dL_hole_10 (by decide) ?_
    refine lv_iconst (v := 0) hx hb dL_hole_17 (by decide) ?_
    exact bk_qr ⟨rfl, rfl, e9⟩ (bk_iret C hH dL_hole_18)
def rm_L_weight : Room := bk_rm 11 1 6 262
set_option maxRecDepth 100000 in
set_option maxHeartbeats 4000000 in
theorem h_L_weight {l : Launch} {G : bk_G} {N : Nat} {Y : bk_Lay} {V : bk_Val} (hst : l.stackTraces = false) {a0 : Nat} {x1 : Int32} {a2 : Nat} {out : Nat ⊕ (Int64)} (hq : q_X11_weight N Y V a0 x1 = some out) (hs : bk_sh Y a0 = (1, 10)) (he : ∀ e, out = .inl e → e = 1) (ho : ∀ o, out = .inr o → bk_sh ((fun o : Int64 => (o, Y, V)) o).2.1 a2 = (3, 1)) : vx_Met l yL_weight (bk_wh yL_weight cL_weight 4 (some FieldType.int) [(0, 8, 11, 18)]) rm_L_weight (bk_Pc G [.ref a0, .int x1, .ref a2] Y V) (bk_QR G (bk_hr Y V a2 (fun _ => 1) (bk_on (fun o : Int64 => (o, Y, V)) out))) bk_nx 1 6 (bk_A G) := by
  refine bk_meth (by decide) (Nat.le_of_ble_eq_true rfl) (fun p e s m args below meth c ls C hT hH hl => ?_)
  have hx := C.1
  have hb := C.2.1
  refine lv_aload_n hx hb dL_weight_0 rfl (lv_at hl 2 rfl) ?_
  refine lv_iconst (v := 0) hx hb dL_weight_1 (by decide) ?_
  refine lv_aload_n hx hb dL_weight_2 rfl (lv_at hl 0 rfl) ?_
  refine lv_iload_n hx hb dL_weight_3 rfl (lv_at hl 1 rfl) ?_
  cases out with
  | inl e9 =>
    obtain rfl := he e9 rfl
    refine bk_callVk (rest := [.int 0, .ref a2]) (As := [.int x1]) (e9 := 1) C hH hl.1 (c_X11_weight hst hq) mc_X11_weight mv_X11_weight lw_RL_24 hs rfl rfl ⟨rfl, rfl⟩ ⟨by decide, by decide⟩ rfl (Nat.le_of_ble_eq_true rfl) dL_weight_4 ⟨by decide, by decide⟩ [] ⟨0, 8, 11, 18⟩ [] hT (fun z hz => nomatch hz) (by decide) (by decide) lc_RL_18 (by decide +kernel) (fun q9 z9 H locs hz9 hH => ?_)
    refine lv_astore_n (lv' := [(3, .ref q9), (0, .ref a0), (1, .int x1), (2, .ref a2)]) hx hb dL_weight_11 rfl hl (by decide) rfl (fun ls hl => ?_)
    refine lv_iconst (v := 1) hx hb dL_weight_12 (by decide) ?_
    exact bk_qr ⟨by decide, rfl, z9, hz9, rfl⟩ (bk_iret C hH dL_weight_13)
  | inr o9 =>
    have ho9 := ho o9 rfl
    refine bk_callVr (f := fun (o : Int64) => bk_Q G (some (.long o)) Y V) (o1 := o9) (rest := [.int 0, .ref a2]) (As := [.int x1]) (ro := some (.long o9)) (Y1 := Y) (V1 := V) rfl C hH hl.1 (c_X11_weight hst hq) mc_X11_weight mv_X11_weight lw_RL_24 hs rfl rfl ⟨rfl, rfl⟩ ⟨by decide, by decide⟩ rfl (Nat.le_of_ble_eq_true rfl) dL_weight_4 ⟨by decide, by decide⟩ (fun H locs hH => ?_)
    refine bk_last C hH ho9 bk_in01 dL_weight_7 (fun V9 H locs e9 hH => ?_)
    refine lv_goto (tgt := 14) hx hb dL_weight_8 (by decide) ?_
    refine lv_iconst (v := 0) hx hb dL_weight_14 (by decide) ?_
    exact bk_qr ⟨rfl, rfl, e9⟩ (bk_iret C hH dL_weight_15)
def rm_L_odds : Room := bk_rm 11 1 6 262
set_option maxRecDepth 100000 in
set_option maxHeartbeats 4000000 in
theorem h_L_odds {l : Launch} {G : bk_G} {N : Nat} {Y : bk_Lay} {V : bk_Val} (hst : l.stackTraces = false) {a0 : Nat} {x1 : Int32} {a2 : Nat} {out : Nat ⊕ (Int32)} (hq : q_X11_odds N Y V a0 x1 = some out) (hs : bk_sh Y a0 = (1, 10)) (he : ∀ e, out = .inl e → e = 1) (ho : ∀ o, out = .inr o → bk_sh ((fun o : Int32 => (o.toInt64, Y, V)) o).2.1 a2 = (3, 1)) : vx_Met l yL_odds (bk_wh yL_odds cL_odds 4 (some FieldType.int) [(0, 9, 12, 18)]) rm_L_odds (bk_Pc G [.ref a0, .int x1, .ref a2] Y V) (bk_QR G (bk_hr Y V a2 (fun _ => 1) (bk_on (fun o : Int32 => (o.toInt64, Y, V)) out))) bk_nx 1 6 (bk_A G) := by
  refine bk_meth (by decide) (Nat.le_of_ble_eq_true rfl) (fun p e s m args below meth c ls C hT hH hl => ?_)
  have hx := C.1
  have hb := C.2.1
  refine lv_aload_n hx hb dL_odds_0 rfl (lv_at hl 2 rfl) ?_
  refine lv_iconst (v := 0) hx hb dL_odds_1 (by decide) ?_
  refine lv_aload_n hx hb dL_odds_2 rfl (lv_at hl 0 rfl) ?_
  refine lv_iload_n hx hb dL_odds_3 rfl (lv_at hl 1 rfl) ?_
  cases out with
  | inl e9 =>
    obtain rfl := he e9 rfl
    refine bk_callVk (rest := [.int 0, .ref a2]) (As := [.int x1]) (e9 := 1) C hH hl.1 (c_X11_odds hst hq) mc_X11_odds mv_X11_odds lw_RL_28 hs rfl rfl ⟨rfl, rfl⟩ ⟨by decide, by decide⟩ rfl (Nat.le_of_ble_eq_true rfl) dL_odds_4 ⟨by decide, by decide⟩ [] ⟨0, 9, 12, 18⟩ [] hT (fun z hz => nomatch hz) (by decide) (by decide) lc_RL_18 (by decide +kernel) (fun q9 z9 H locs hz9 hH => ?_)
    refine lv_astore_n (lv' := [(3, .ref q9), (0, .ref a0), (1, .int x1), (2, .ref a2)]) hx hb dL_odds_12 rfl hl (by decide) rfl (fun ls hl => ?_)
    refine lv_iconst (v := 1) hx hb dL_odds_13 (by decide) ?_
    exact bk_qr ⟨by decide, rfl, z9, hz9, rfl⟩ (bk_iret C hH dL_odds_14)
  | inr o9 =>
    have ho9 := ho o9 rfl
    refine bk_callVr (f := fun (o : Int32) => bk_Q G (some (.int o)) Y V) (o1 := o9) (rest := [.int 0, .ref a2]) (As := [.int x1]) (ro := some (.int o9)) (Y1 := Y) (V1 := V) rfl C hH hl.1 (c_X11_odds hst hq) mc_X11_odds mv_X11_odds lw_RL_28 hs rfl rfl ⟨rfl, rfl⟩ ⟨by decide, by decide⟩ rfl (Nat.le_of_ble_eq_true rfl) dL_odds_4 ⟨by decide, by decide⟩ (fun H locs hH => ?_)
    refine lv_i2l hx hb dL_odds_7 rfl ?_
    refine bk_last C hH ho9 bk_in01 dL_odds_8 (fun V9 H locs e9 hH => ?_)
    refine lv_goto (tgt := 15) hx hb dL_odds_9 (by decide) ?_
    refine lv_iconst (v := 0) hx hb dL_odds_15 (by decide) ?_
    exact bk_qr ⟨rfl, rfl, e9⟩ (bk_iret C hH dL_odds_16)
def rm_L_next : Room := bk_rm 10 1 6 241
set_option maxRecDepth 100000 in
set_option maxHeartbeats 4000000 in
theorem h_L_next {l : Launch} {G : bk_G} {N : Nat} {Y : bk_Lay} {V : bk_Val} (hst : l.stackTraces = false) {a0 : Nat} {x1 : Int32} {a2 : Nat} {out : Nat ⊕ (Int32 × bk_Lay × bk_Val)} (hq : q_X11_next N Y V a0 x1 = some out) (hs : bk_sh Y a0 = (1, 10)) (he : ∀ e, out = .inl e → e = 1) (ho : ∀ o, out = .inr o → bk_sh ((fun o : Int32 × bk_Lay × bk_Val => (o.1.toInt64, o.2.1, o.2.2)) o).2.1 a2 = (3, 1)) : vx_Met l yL_next (bk_wh yL_next cL_next 4 (some FieldType.int) [(0, 9, 12, 18)]) rm_L_next (bk_Pc G [.ref a0, .int x1, .ref a2] Y V) (bk_QR G (bk_hr Y V a2 (fun _ => 1) (bk_on (fun o : Int32 × bk_Lay × bk_Val => (o.1.toInt64, o.2.1, o.2.2)) out))) bk_nx 1 6 (bk_A G) := by
  refine bk_meth (by decide) (Nat.le_of_ble_eq_true rfl) (fun p e s m args below meth c ls C hT hH hl => ?_)
  have hx := C.1
  have hb := C.2.1
  refine lv_aload_n hx hb dL_next_0 rfl (lv_at hl 2 rfl) ?_
  refine lv_iconst (v := 0) hx hb dL_next_1 (by decide) ?_
  refine lv_aload_n hx hb dL_next_2 rfl (lv_at hl 0 rfl) ?_
  refine lv_iload_n hx hb dL_next_3 rfl (lv_at hl 1 rfl) ?_
  cases out with
  | inl e9 =>
    obtain rfl := he e9 rfl
    refine bk_callVk (rest := [.int 0, .ref a2]) (As := [.int x1]) (e9 := 1) C hH hl.1 (c_X11_next hst hq) mc_X11_next mv_X11_next lw_RL_31 hs rfl rfl ⟨rfl, rfl⟩ ⟨by decide, by decide⟩ rfl (Nat.le_of_ble_eq_true rfl) dL_next_4 ⟨by decide, by decide⟩ [] ⟨0, 9, 12, 18⟩ [] hT (fun z hz => nomatch hz) (by decide) (by decide) lc_RL_18 (by decide +kernel) (fun q9 z9 H locs hz9 hH => ?_)
    refine lv_astore_n (lv' := [(3, .ref q9), (0, .ref a0), (1, .int x1), (2, .ref a2)]) hx hb dL_next_12 rfl hl (by decide) rfl (fun ls hl => ?_)
    refine lv_iconst (v := 1) hx hb dL_next_13 (by decide) ?_
    exact bk_qr ⟨by decide, rfl, z9, hz9, rfl⟩ (bk_iret C hH dL_next_14)
  | inr o9 =>
    have ho9 := ho o9 rfl
    refine bk_callVr (f := fun (o : Int32 × bk_Lay × bk_Val) => bk_Q G (some (.int o.1)) o.2.1 o.2.2) (o1 := o9) (rest := [.int 0, .ref a2]) (As := [.int x1]) (ro := some (.int o9.1)) (Y1 := o9.2.1) (V1 := o9.2.2) rfl C hH hl.1 (c_X11_next hst hq) mc_X11_next mv_X11_next lw_RL_31 hs rfl rfl ⟨rfl, rfl⟩ ⟨by decide, by decide⟩ rfl (Nat.le_of_ble_eq_true rfl) dL_next_4 ⟨by decide, by decide⟩ (fun H locs hH => ?_)
    refine lv_i2l hx hb dL_next_7 rfl ?_
    refine bk_last C hH ho9 bk_in01 dL_next_8 (fun V9 H locs e9 hH => ?_)
    refine lv_goto (tgt := 15) hx hb dL_next_9 (by decide) ?_
    refine lv_iconst (v := 0) hx hb dL_next_15 (by decide) ?_
    exact bk_qr ⟨rfl, rfl, e9⟩ (bk_iret C hH dL_next_16)
def rm_L_plan : Room := bk_rm 10 1 6 244
set_option maxRecDepth 100000 in
set_option maxHeartbeats 4000000 in
theorem h_L_plan {l : Launch} {G : bk_G} {N : Nat} {Y : bk_Lay} {V : bk_Val} (hst : l.stackTraces = false) {a0 : Nat} {x1 : Int32} {a2 : Nat} {out : Nat ⊕ (Int32 × bk_Lay × bk_Val)} (hq : q_X11_plan N Y V a0 x1 = some out) (hs : bk_sh Y a0 = (1, 10)) (he : ∀ e, out = .inl e → e = 2) (ho : ∀ o, out = .inr o → bk_sh ((fun o : Int32 × bk_Lay × bk_Val => (o.1.toInt64, o.2.1, o.2.2)) o).2.1 a2 = (3, 1)) : vx_Met l yL_plan (bk_wh yL_plan cL_plan 4 (some FieldType.int) [(0, 9, 12, 13)]) rm_L_plan (bk_Pc G [.ref a0, .int x1, .ref a2] Y V) (bk_QR G (bk_hr Y V a2 (fun _ => 1) (bk_on (fun o : Int32 × bk_Lay × bk_Val => (o.1.toInt64, o.2.1, o.2.2)) out))) bk_nx 1 6 (bk_A G) := by
  refine bk_meth (by decide) (Nat.le_of_ble_eq_true rfl) (fun p e s m args below meth c ls C hT hH hl => ?_)
  have hx := C.1
  have hb := C.2.1
  refine lv_aload_n hx hb dL_plan_0 rfl (lv_at hl 2 rfl) ?_
  refine lv_iconst (v := 0) hx hb dL_plan_1 (by decide) ?_
  refine lv_aload_n hx hb dL_plan_2 rfl (lv_at hl 0 rfl) ?_
  refine lv_iload_n hx hb dL_plan_3 rfl (lv_at hl 1 rfl) ?_
  cases out with
  | inl e9 =>
    obtain rfl := he e9 rfl
    refine bk_callVk (rest := [.int 0, .ref a2]) (As := [.int x1]) (e9 := 2) C hH hl.1 (c_X11_plan hst hq) mc_X11_plan mv_X11_plan lw_RL_34 hs rfl rfl ⟨rfl, rfl⟩ ⟨by decide, by decide⟩ rfl (Nat.le_of_ble_eq_true rfl) dL_plan_4 ⟨by decide, by decide⟩ [] ⟨0, 9, 12, 13⟩ [] hT (fun z hz => nomatch hz) (by decide) (by decide) lc_RL_13 (by decide +kernel) (fun q9 z9 H locs hz9 hH => ?_)
    refine lv_astore_n (lv' := [(3, .ref q9), (0, .ref a0), (1, .int x1), (2, .ref a2)]) hx hb dL_plan_12 rfl hl (by decide) rfl (fun ls hl => ?_)
    refine lv_iconst (v := 1) hx hb dL_plan_13 (by decide) ?_
    exact bk_qr ⟨by decide, rfl, z9, hz9, rfl⟩ (bk_iret C hH dL_plan_14)
  | inr o9 =>
    have ho9 := ho o9 rfl
    refine bk_callVr (f := fun (o : Int32 × bk_Lay × bk_Val) => bk_Q G (some (.int o.1)) o.2.1 o.2.2) (o1 := o9) (rest := [.int 0, .ref a2]) (As := [.int x1]) (ro := some (.int o9.1)) (Y1 := o9.2.1) (V1 := o9.2.2) rfl C hH hl.1 (c_X11_plan hst hq) mc_X11_plan mv_X11_plan lw_RL_34 hs rfl rfl ⟨rfl, rfl⟩ ⟨by decide, by decide⟩ rfl (Nat.le_of_ble_eq_true rfl) dL_plan_4 ⟨by decide, by decide⟩ (fun H locs hH => ?_)
    refine lv_i2l hx hb dL_plan_7 rfl ?_
    refine bk_last C hH ho9 bk_in01 dL_plan_8 (fun V9 H locs e9 hH => ?_)
    refine lv_goto (tgt := 15) hx hb dL_plan_9 (by decide) ?_
    refine lv_iconst (v := 0) hx hb dL_plan_15 (by decide) ?_
    exact bk_qr ⟨rfl, rfl, e9⟩ (bk_iret C hH dL_plan_16)
def rm_L_planned : Room := bk_rm 10 1 6 241
set_option maxRecDepth 100000 in
set_option maxHeartbeats 4000000 in
theorem h_L_planned {l : Launch} {G : bk_G} {N : Nat} {Y : bk_Lay} {V : bk_Val} (hst : l.stackTraces = false) {a0 : Nat} {x1 : Int32} {a2 : Nat} {out : Nat ⊕ (Int32)} (hq : q_X11_planned N Y V a0 x1 = some out) (hs : bk_sh Y a0 = (1, 10)) (he : ∀ e, out = .inl e → e = 1) (ho : ∀ o, out = .inr o → bk_sh ((fun o : Int32 => (o.toInt64, Y, V)) o).2.1 a2 = (3, 1)) : vx_Met l yL_planned (bk_wh yL_planned cL_planned 4 (some FieldType.int) [(0, 9, 12, 18)]) rm_L_planned (bk_Pc G [.ref a0, .int x1, .ref a2] Y V) (bk_QR G (bk_hr Y V a2 (fun _ => 1) (bk_on (fun o : Int32 => (o.toInt64, Y, V)) out))) bk_nx 1 6 (bk_A G) := by
  refine bk_meth (by decide) (Nat.le_of_ble_eq_true rfl) (fun p e s m args below meth c ls C hT hH hl => ?_)
  have hx := C.1
  have hb := C.2.1
  refine lv_aload_n hx hb dL_planned_0 rfl (lv_at hl 2 rfl) ?_
  refine lv_iconst (v := 0) hx hb dL_planned_1 (by decide) ?_
  refine lv_aload_n hx hb dL_planned_2 rfl (lv_at hl 0 rfl) ?_
  refine lv_iload_n hx hb dL_planned_3 rfl (lv_at hl 1 rfl) ?_
  cases out with
  | inl e9 =>
    obtain rfl := he e9 rfl
    refine bk_callVk (rest := [.int 0, .ref a2]) (As := [.int x1]) (e9 := 1) C hH hl.1 (c_X11_planned hst hq) mc_X11_planned mv_X11_planned lw_RL_37 hs rfl rfl ⟨rfl, rfl⟩ ⟨by decide, by decide⟩ rfl (Nat.le_of_ble_eq_true rfl) dL_planned_4 ⟨by decide, by decide⟩ [] ⟨0, 9, 12, 18⟩ [] hT (fun z hz => nomatch hz) (by decide) (by decide) lc_RL_18 (by decide +kernel) (fun q9 z9 H locs hz9 hH => ?_)
    refine lv_astore_n (lv' := [(3, .ref q9), (0, .ref a0), (1, .int x1), (2, .ref a2)]) hx hb dL_planned_12 rfl hl (by decide) rfl (fun ls hl => ?_)
    refine lv_iconst (v := 1) hx hb dL_planned_13 (by decide) ?_
    exact bk_qr ⟨by decide, rfl, z9, hz9, rfl⟩ (bk_iret C hH dL_planned_14)
  | inr o9 =>
    have ho9 := ho o9 rfl
    refine bk_callVr (f := fun (o : Int32) => bk_Q G (some (.int o)) Y V) (o1 := o9) (rest := [.int 0, .ref a2]) (As := [.int x1]) (ro := some (.int o9)) (Y1 := Y) (V1 := V) rfl C hH hl.1 (c_X11_planned hst hq) mc_X11_planned mv_X11_planned lw_RL_37 hs rfl rfl ⟨rfl, rfl⟩ ⟨by decide, by decide⟩ rfl (Nat.le_of_ble_eq_true rfl) dL_planned_4 ⟨by decide, by decide⟩ (fun H locs hH => ?_)
    refine lv_i2l hx hb dL_planned_7 rfl ?_
    refine bk_last C hH ho9 bk_in01 dL_planned_8 (fun V9 H locs e9 hH => ?_)
    refine lv_goto (tgt := 15) hx hb dL_planned_9 (by decide) ?_
    refine lv_iconst (v := 0) hx hb dL_planned_15 (by decide) ?_
    exact bk_qr ⟨rfl, rfl, e9⟩ (bk_iret C hH dL_planned_16)
def rm_L_seek : Room := bk_rm 10 1 6 243
set_option maxRecDepth 100000 in
set_option maxHeartbeats 4000000 in
theorem h_L_seek {l : Launch} {G : bk_G} {N : Nat} {Y : bk_Lay} {V : bk_Val} (hst : l.stackTraces = false) {a0 : Nat} {x1 : Int32} {x2 : Int32} {x3 : Int32} {a4 : Nat} {out : Nat ⊕ (Int32 × bk_Lay × bk_Val)} (hq : q_X11_seek N Y V a0 x1 x2 x3 = some out) (hs : bk_sh Y a0 = (1, 10)) (he : ∀ e, out = .inl e → e = 1) (ho : ∀ o, out = .inr o → bk_sh ((fun o : Int32 × bk_Lay × bk_Val => (o.1.toInt64, o.2.1, o.2.2)) o).2.1 a4 = (3, 1)) : vx_Met l yL_seek (bk_wh yL_seek cL_seek 6 (some FieldType.int) [(0, 12, 15, 18)]) rm_L_seek (bk_Pc G [.ref a0, .int x1, .int x2, .int x3, .ref a4] Y V) (bk_QR G (bk_hr Y V a4 (fun _ => 1) (bk_on (fun o : Int32 × bk_Lay × bk_Val => (o.1.toInt64, o.2.1, o.2.2)) out))) bk_nx 1 6 (bk_A G) := by
  refine bk_meth (by decide) (Nat.le_of_ble_eq_true rfl) (fun p e s m args below meth c ls C hT hH hl => ?_)
  have hx := C.1
  have hb := C.2.1
  refine lv_aload hx hb dL_seek_0 (lv_at hl 4 rfl) ?_
  refine lv_iconst (v := 0) hx hb dL_seek_2 (by decide) ?_
  refine lv_aload_n hx hb dL_seek_3 rfl (lv_at hl 0 rfl) ?_
  refine lv_iload_n hx hb dL_seek_4 rfl (lv_at hl 1 rfl) ?_
  refine lv_iload_n hx hb dL_seek_5 rfl (lv_at hl 2 rfl) ?_
  refine lv_iload_n hx hb dL_seek_6 rfl (lv_at hl 3 rfl) ?_
  cases out with
  | inl e9 =>
    obtain rfl := he e9 rfl
    refine bk_callVk (rest := [.int 0, .ref a4]) (As := [.int x1, .int x2, .int x3]) (e9 := 1) C hH hl.1 (c_X11_seek hst hq) mc_X11_seek mv_X11_seek lw_RL_40 hs rfl rfl ⟨rfl, rfl⟩ ⟨by decide, by decide⟩ rfl (Nat.le_of_ble_eq_true rfl) dL_seek_7 ⟨by decide, by decide⟩ [] ⟨0, 12, 15, 18⟩ [] hT (fun z hz => nomatch hz) (by decide) (by decide) lc_RL_18 (by decide +kernel) (fun q9 z9 H locs hz9 hH => ?_)
    refine lv_astore (lv' := [(5, .ref q9), (0, .ref a0), (1, .int x1), (2, .int x2), (3, .int x3), (4, .ref a4)]) hx hb dL_seek_15 hl (by decide) rfl (fun ls hl => ?_)
    refine lv_iconst (v := 1) hx hb dL_seek_17 (by decide) ?_
    exact bk_qr ⟨by decide, rfl, z9, hz9, rfl⟩ (bk_iret C hH dL_seek_18)
  | inr o9 =>
    have ho9 := ho o9 rfl
    refine bk_callVr (f := fun (o : Int32 × bk_Lay × bk_Val) => bk_Q G (some (.int o.1)) o.2.1 o.2.2) (o1 := o9) (rest := [.int 0, .ref a4]) (As := [.int x1, .int x2, .int x3]) (ro := some (.int o9.1)) (Y1 := o9.2.1) (V1 := o9.2.2) rfl C hH hl.1 (c_X11_seek hst hq) mc_X11_seek mv_X11_seek lw_RL_40 hs rfl rfl ⟨rfl, rfl⟩ ⟨by decide, by decide⟩ rfl (Nat.le_of_ble_eq_true rfl) dL_seek_7 ⟨by decide, by decide⟩ (fun H locs hH => ?_)
    refine lv_i2l hx hb dL_seek_10 rfl ?_
    refine bk_last C hH ho9 bk_in01 dL_seek_11 (fun V9 H locs e9 hH => ?_)
    refine lv_goto (tgt := 19) hx hb dL_seek_12 (by decide) ?_
    refine lv_iconst (v := 0) hx hb dL_seek_19 (by decide) ?_
    exact bk_qr ⟨rfl, rfl, e9⟩ (bk_iret C hH dL_seek_20)
def rm_L_air : Room := bk_rm 10 1 6 244
set_option maxRecDepth 100000 in
set_option maxHeartbeats 4000000 in
theorem h_L_air {l : Launch} {G : bk_G} {N : Nat} {Y : bk_Lay} {V : bk_Val} (hst : l.stackTraces = false) {a0 : Nat} {x1 : Int32} {a2 : Nat} {out : Nat ⊕ (Int32)} (hq : q_X11_air N Y V a0 x1 = some out) (hs : bk_sh Y a0 = (1, 10)) (he : ∀ e, out = .inl e → e = 2) (ho : ∀ o, out = .inr o → bk_sh ((fun o : Int32 => (o.toInt64, Y, V)) o).2.1 a2 = (3, 1)) : vx_Met l yL_air (bk_wh yL_air cL_air 4 (some FieldType.int) [(0, 9, 12, 13)]) rm_L_air (bk_Pc G [.ref a0, .int x1, .ref a2] Y V) (bk_QR G (bk_hr Y V a2 (fun _ => 1) (bk_on (fun o : Int32 => (o.toInt64, Y, V)) out))) bk_nx 1 6 (bk_A G) := by
  refine bk_meth (by decide) (Nat.le_of_ble_eq_true rfl) (fun p e s m args below meth c ls C hT hH hl => ?_)
  have hx := C.1
  have hb := C.2.1
  refine lv_aload_n hx hb dL_air_0 rfl (lv_at hl 2 rfl) ?_
  refine lv_iconst (v := 0) hx hb dL_air_1 (by decide) ?_
  refine lv_aload_n hx hb dL_air_2 rfl (lv_at hl 0 rfl) ?_
  refine lv_iload_n hx hb dL_air_3 rfl (lv_at hl 1 rfl) ?_
  cases out with
  | inl e9 =>
    obtain rfl := he e9 rfl
    refine bk_callVk (rest := [.int 0, .ref a2]) (As := [.int x1]) (e9 := 2) C hH hl.1 (c_X11_air hst hq) mc_X11_air mv_X11_air lw_RL_44 hs rfl rfl ⟨rfl, rfl⟩ ⟨by decide, by decide⟩ rfl (Nat.le_of_ble_eq_true rfl) dL_air_4 ⟨by decide, by decide⟩ [] ⟨0, 9, 12, 13⟩ [] hT (fun z hz => nomatch hz) (by decide) (by decide) lc_RL_13 (by decide +kernel) (fun q9 z9 H locs hz9 hH => ?_)
    refine lv_astore_n (lv' := [(3, .ref q9), (0, .ref a0), (1, .int x1), (2, .ref a2)]) hx hb dL_air_12 rfl hl (by decide) rfl (fun ls hl => ?_)
    refine lv_iconst (v := 1) hx hb dL_air_13 (by decide) ?_
    exact bk_qr ⟨by decide, rfl, z9, hz9, rfl⟩ (bk_iret C hH dL_air_14)
  | inr o9 =>
    have ho9 := ho o9 rfl
    refine bk_callVr (f := fun (o : Int32) => bk_Q G (some (.int o)) Y V) (o1 := o9) (rest := [.int 0, .ref a2]) (As := [.int x1]) (ro := some (.int o9)) (Y1 := Y) (V1 := V) rfl C hH hl.1 (c_X11_air hst hq) mc_X11_air mv_X11_air lw_RL_44 hs rfl rfl ⟨rfl, rfl⟩ ⟨by decide, by decide⟩ rfl (Nat.le_of_ble_eq_true rfl) dL_air_4 ⟨by decide, by decide⟩ (fun H locs hH => ?_)
    refine lv_i2l hx hb dL_air_7 rfl ?_
    refine bk_last C hH ho9 bk_in01 dL_air_8 (fun V9 H locs e9 hH => ?_)
    refine lv_goto (tgt := 15) hx hb dL_air_9 (by decide) ?_
    refine lv_iconst (v := 0) hx hb dL_air_15 (by decide) ?_
    exact bk_qr ⟨rfl, rfl, e9⟩ (bk_iret C hH dL_air_16)
def rm_L_line : Room := bk_rm 10 1 6 244
set_option maxRecDepth 100000 in
set_option maxHeartbeats 4000000 in
theorem h_L_line {l : Launch} {G : bk_G} {N : Nat} {Y : bk_Lay} {V : bk_Val} (hst : l.stackTraces = false) {a0 : Nat} {x1 : Int32} {a2 : Nat} {out : Nat ⊕ (Int32)} (hq : q_X11_line N Y V a0 x1 = some out) (hs : bk_sh Y a0 = (1, 10)) (he : ∀ e, out = .inl e → e = 2) (ho : ∀ o, out = .inr o → bk_sh ((fun o : Int32 => (o.toInt64, Y, V)) o).2.1 a2 = (3, 1)) : vx_Met l yL_line (bk_wh yL_line cL_line 4 (some FieldType.int) [(0, 9, 12, 13)]) rm_L_line (bk_Pc G [.ref a0, .int x1, .ref a2] Y V) (bk_QR G (bk_hr Y V a2 (fun _ => 1) (bk_on (fun o : Int32 => (o.toInt64, Y, V)) out))) bk_nx 1 6 (bk_A G) := by
  refine bk_meth (by decide) (Nat.le_of_ble_eq_true rfl) (fun p e s m args below meth c ls C hT hH hl => ?_)
  have hx := C.1
  have hb := C.2.1
  refine lv_aload_n hx hb dL_line_0 rfl (lv_at hl 2 rfl) ?_
  refine lv_iconst (v := 0) hx hb dL_line_1 (by decide) ?_
  refine lv_aload_n hx hb dL_line_2 rfl (lv_at hl 0 rfl) ?_
  refine lv_iload_n hx hb dL_line_3 rfl (lv_at hl 1 rfl) ?_
  cases out with
  | inl e9 =>
    obtain rfl := he e9 rfl
    refine bk_callVk (rest := [.int 0, .ref a2]) (As := [.int x1]) (e9 := 2) C hH hl.1 (c_X11_line hst hq) mc_X11_line mv_X11_line lw_RL_47 hs rfl rfl ⟨rfl, rfl⟩ ⟨by decide, by decide⟩ rfl (Nat.le_of_ble_eq_true rfl) dL_line_4 ⟨by decide, by decide⟩ [] ⟨0, 9, 12, 13⟩ [] hT (fun z hz => nomatch hz) (by decide) (by decide) lc_RL_13 (by decide +kernel) (fun q9 z9 H locs hz9 hH => ?_)
    refine lv_astore_n (lv' := [(3, .ref q9), (0, .ref a0), (1, .int x1), (2, .ref a2)]) hx hb dL_line_12 rfl hl (by decide) rfl (fun ls hl => ?_)
    refine lv_iconst (v := 1) hx hb dL_line_13 (by decide) ?_
    exact bk_qr ⟨by decide, rfl, z9, hz9, rfl⟩ (bk_iret C hH dL_line_14)
  | inr o9 =>
    have ho9 := ho o9 rfl
    refine bk_callVr (f := fun (o : Int32) => bk_Q G (some (.int o)) Y V) (o1 := o9) (rest := [.int 0, .ref a2]) (As := [.int x1]) (ro := some (.int o9)) (Y1 := Y) (V1 := V) rfl C hH hl.1 (c_X11_line hst hq) mc_X11_line mv_X11_line lw_RL_47 hs rfl rfl ⟨rfl, rfl⟩ ⟨by decide, by decide⟩ rfl (Nat.le_of_ble_eq_true rfl) dL_line_4 ⟨by decide, by decide⟩ (fun H locs hH => ?_)
    refine lv_i2l hx hb dL_line_7 rfl ?_
    refine bk_last C hH ho9 bk_in01 dL_line_8 (fun V9 H locs e9 hH => ?_)
    refine lv_goto (tgt := 15) hx hb dL_line_9 (by decide) ?_
    refine lv_iconst (v := 0) hx hb dL_line_15 (by decide) ?_
    exact bk_qr ⟨rfl, rfl, e9⟩ (bk_iret C hH dL_line_16)
def rm_L_holds : Room := bk_rm 11 2 12 265
set_option maxRecDepth 100000 in
set_option maxHeartbeats 4000000 in
theorem h_L_holds {l : Launch} {G : bk_G} {N : Nat} {Y : bk_Lay} {V : bk_Val} (hst : l.stackTraces = false) {a0 : Nat} {x1 : Int32} {x2 : Int32} {x3 : Int32} {x4 : Int32} {a5 : Nat} {out : Nat ⊕ (Int32 × bk_Val)} (hq : q_X11_holds N Y V a0 x1 x2 x3 x4 = some out) (hs : bk_sh Y a0 = (1, 10)) (he : ∀ e, out = .inl e → e = 1 ∨ e = 2) (ho : ∀ o, out = .inr o → bk_sh ((fun o : Int32 × bk_Val => (o.1.toInt64, Y, o.2)) o).2.1 a5 = (3, 1)) : vx_Met l yL_holds (bk_wh yL_holds cL_holds 7 (some FieldType.int) [(0, 14, 17, 18), (0, 14, 21, 13)]) rm_L_holds (bk_Pc G [.ref a0, .int x1, .int x2, .int x3, .int x4, .ref a5] Y V) (bk_QR G (bk_hr Y V a5 (fun e => if e = 1 then 1 else 2) (bk_on (fun o : Int32 × bk_Val => (o.1.toInt64, Y, o.2)) out))) bk_nx 2 12 (bk_A G) := by
  refine bk_meth (by decide) (Nat.le_of_ble_eq_true rfl) (fun p e s m args below meth c ls C hT hH hl => ?_)
  have hx := C.1
  have hb := C.2.1
  refine lv_aload hx hb dL_holds_0 (lv_at hl 5 rfl) ?_
  refine lv_iconst (v := 0) hx hb dL_holds_2 (by decide) ?_
  refine lv_aload_n hx hb dL_holds_3 rfl (lv_at hl 0 rfl) ?_
  refine lv_iload_n hx hb dL_holds_4 rfl (lv_at hl 1 rfl) ?_
  refine lv_iload_n hx hb dL_holds_5 rfl (lv_at hl 2 rfl) ?_
  refine lv_iload_n hx hb dL_holds_6 rfl (lv_at hl 3 rfl) ?_
  refine lv_iload hx hb dL_holds_7 (lv_at hl 4 rfl) ?_
  cases out with
  | inl e9 =>
    rcases he e9 rfl with rfl | rfl
    · skip
      refine bk_callVk (rest := [.int 0, .ref a5]) (As := [.int x1, .int x2, .int x3, .int x4]) (e9 := 1) C hH hl.1 (c_X11_holds hst hq) mc_X11_holds mv_X11_holds lw_RL_50 hs rfl rfl ⟨rfl, rfl⟩ ⟨by decide, by decide⟩ rfl (Nat.le_of_ble_eq_true rfl) dL_holds_9 ⟨by decide, by decide⟩ [] ⟨0, 14, 17, 18⟩ [⟨0, 14, 21, 13⟩] hT (fun z hz => nomatch hz) (by decide) (by decide) lc_RL_18 (by decide +kernel) (fun q9 z9 H locs hz9 hH => ?_)
      refine lv_astore (lv' := [(6, .ref q9), (0, .ref a0), (1, .int x1), (2, .int x2), (3, .int x3), (4, .int x4), (5, .ref a5)]) hx hb dL_holds_17 hl (by decide) rfl (fun ls hl => ?_)
      refine lv_iconst (v := 1) hx hb dL_holds_19 (by decide) ?_
      exact bk_qr ⟨by decide, rfl, z9, hz9, rfl⟩ (bk_iret C hH dL_holds_20)
    · skip
      refine bk_callVk (rest := [.int 0, .ref a5]) (As := [.int x1, .int x2, .int x3, .int x4]) (e9 := 2) C hH hl.1 (c_X11_holds hst hq) mc_X11_holds mv_X11_holds lw_RL_50 hs rfl rfl ⟨rfl, rfl⟩ ⟨by decide, by decide⟩ rfl (Nat.le_of_ble_eq_true rfl) dL_holds_9 ⟨by decide, by decide⟩ [⟨0, 14, 17, 18⟩] ⟨0, 14, 21, 13⟩ [] hT (fun z hz => by
          cases hz with
          | head => exact ⟨by decide, _, lc_RL_18, C.2.2.2.2.2.2.2.2.2.2.2⟩
          | tail _ h => exact nomatch h) (by decide) (by decide) lc_RL_13 (by decide +kernel) (fun q9 z9 H locs hz9 hH => ?_)
      refine lv_astore (lv' := [(6, .ref q9), (0, .ref a0), (1, .int x1), (2, .int x2), (3, .int x3), (4, .int x4), (5, .ref a5)]) hx hb dL_holds_21 hl (by decide) rfl (fun ls hl => ?_)
      refine lv_iconst (v := 2) hx hb dL_holds_23 (by decide) ?_
      exact bk_qr ⟨by decide, rfl, z9, hz9, rfl⟩ (bk_iret C hH dL_holds_24)
  | inr o9 =>
    have ho9 := ho o9 rfl
    refine bk_callVr (f := fun (o : Int32 × bk_Val) => bk_Q G (some (.int o.1)) Y o.2) (o1 := o9) (rest := [.int 0, .ref a5]) (As := [.int x1, .int x2, .int x3, .int x4]) (ro := some (.int o9.1)) (Y1 := Y) (V1 := o9.2) rfl C hH hl.1 (c_X11_holds hst hq) mc_X11_holds mv_X11_holds lw_RL_50 hs rfl rfl ⟨rfl, rfl⟩ ⟨by decide, by decide⟩ rfl (Nat.le_of_ble_eq_true rfl) dL_holds_9 ⟨by decide, by decide⟩ (fun H locs hH => ?_)
    refine lv_i2l hx hb dL_holds_12 rfl ?_
    refine bk_last C hH ho9 bk_in01 dL_holds_13 (fun V9 H locs e9 hH => ?_)
    refine lv_goto (tgt := 25) hx hb dL_holds_14 (by decide) ?_
    refine lv_iconst (v := 0) hx hb dL_holds_25 (by decide) ?_
    exact bk_qr ⟨rfl, rfl, e9⟩ (bk_iret C hH dL_holds_26)
def rm_L_glue : Room := bk_rm 11 2 12 265
set_option maxRecDepth 100000 in
set_option maxHeartbeats 4000000 in
theorem h_L_glue {l : Launch} {G : bk_G} {N : Nat} {Y : bk_Lay} {V : bk_Val} (hst : l.stackTraces = false) {a0 : Nat} {x1 : Int32} {x2 : Int32} {x3 : Int32} {x4 : Int32} {a5 : Nat} {out : Nat ⊕ (Int32 × bk_Val)} (hq : q_X11_glue N Y V a0 x1 x2 x3 x4 = some out) (hs : bk_sh Y a0 = (1, 10)) (he : ∀ e, out = .inl e → e = 1 ∨ e = 2) (ho : ∀ o, out = .inr o → bk_sh ((fun o : Int32 × bk_Val => (o.1.toInt64, Y, o.2)) o).2.1 a5 = (3, 1)) : vx_Met l yL_glue (bk_wh yL_glue cL_glue 7 (some FieldType.int) [(0, 14, 17, 18), (0, 14, 21, 13)]) rm_L_glue (bk_Pc G [.ref a0, .int x1, .int x2, .int x3, .int x4, .ref a5] Y V) (bk_QR G (bk_hr Y V a5 (fun e => if e = 1 then 1 else 2) (bk_on (fun o : Int32 × bk_Val => (o.1.toInt64, Y, o.2)) out))) bk_nx 2 12 (bk_A G) := by
  refine bk_meth (by decide) (Nat.le_of_ble_eq_true rfl) (fun p e s m args below meth c ls C hT hH hl => ?_)
  have hx := C.1
  have hb := C.2.1
  refine lv_aload hx hb dL_glue_0 (lv_at hl 5 rfl) ?_
  refine lv_iconst (v := 0) hx hb dL_glue_2 (by decide) ?_
  refine lv_aload_n hx hb dL_glue_3 rfl (lv_at hl 0 rfl) ?_
  refine lv_iload_n hx hb dL_glue_4 rfl (lv_at hl 1 rfl) ?_
  refine lv_iload_n hx hb dL_glue_5 rfl (lv_at hl 2 rfl) ?_
  refine lv_iload_n hx hb dL_glue_6 rfl (lv_at hl 3 rfl) ?_
  refine lv_iload hx hb dL_glue_7 (lv_at hl 4 rfl) ?_
  cases out with
  | inl e9 =>
    rcases he e9 rfl with rfl | rfl
    · skip
      refine bk_callVk (rest := [.int 0, .ref a5]) (As := [.int x1, .int x2, .int x3, .int x4]) (e9 := 1) C hH hl.1 (c_X11_glue hst hq) mc_X11_glue mv_X11_glue lw_RL_54 hs rfl rfl ⟨rfl, rfl⟩ ⟨by decide, by decide⟩ rfl (Nat.le_of_ble_eq_true rfl) dL_glue_9 ⟨by decide, by decide⟩ [] ⟨0, 14, 17, 18⟩ [⟨0, 14, 21, 13⟩] hT (fun z hz => nomatch hz) (by decide) (by decide) lc_RL_18 (by decide +kernel) (fun q9 z9 H locs hz9 hH => ?_)
      refine lv_astore (lv' := [(6, .ref q9), (0, .ref a0), (1, .int x1), (2, .int x2), (3, .int x3), (4, .int x4), (5, .ref a5)]) hx hb dL_glue_17 hl (by decide) rfl (fun ls hl => ?_)
      refine lv_iconst (v := 1) hx hb dL_glue_19 (by decide) ?_
      exact bk_qr ⟨by decide, rfl, z9, hz9, rfl⟩ (bk_iret C hH dL_glue_20)
    · skip
      refine bk_callVk (rest := [.int 0, .ref a5]) (As := [.int x1, .int x2, .int x3, .int x4]) (e9 := 2) C hH hl.1 (c_X11_glue hst hq) mc_X11_glue mv_X11_glue lw_RL_54 hs rfl rfl ⟨rfl, rfl⟩ ⟨by decide, by decide⟩ rfl (Nat.le_of_ble_eq_true rfl) dL_glue_9 ⟨by decide, by decide⟩ [⟨0, 14, 17, 18⟩] ⟨0, 14, 21, 13⟩ [] hT (fun z hz => by
          cases hz with
          | head => exact ⟨by decide, _, lc_RL_18, C.2.2.2.2.2.2.2.2.2.2.2⟩
          | tail _ h => exact nomatch h) (by decide) (by decide) lc_RL_13 (by decide +kernel) (fun q9 z9 H locs hz9 hH => ?_)
      refine lv_astore (lv' := [(6, .ref q9), (0, .ref a0), (1, .int x1), (2, .int x2), (3, .int x3), (4, .int x4), (5, .ref a5)]) hx hb dL_glue_21 hl (by decide) rfl (fun ls hl => ?_)
      refine lv_iconst (v := 2) hx hb dL_glue_23 (by decide) ?_
      exact bk_qr ⟨by decide, rfl, z9, hz9, rfl⟩ (bk_iret C hH dL_glue_24)
  | inr o9 =>
    have ho9 := ho o9 rfl
    refine bk_callVr (f := fun (o : Int32 × bk_Val) => bk_Q G (some (.int o.1)) Y o.2) (o1 := o9) (rest := [.int 0, .ref a5]) (As := [.int x1, .int x2, .int x3, .int x4]) (ro := some (.int o9.1)) (Y1 := Y) (V1 := o9.2) rfl C hH hl.1 (c_X11_glue hst hq) mc_X11_glue mv_X11_glue lw_RL_54 hs rfl rfl ⟨rfl, rfl⟩ ⟨by decide, by decide⟩ rfl (Nat.le_of_ble_eq_true rfl) dL_glue_9 ⟨by decide, by decide⟩ (fun H locs hH => ?_)
    refine lv_i2l hx hb dL_glue_12 rfl ?_
    refine bk_last C hH ho9 bk_in01 dL_glue_13 (fun V9 H locs e9 hH => ?_)
    refine lv_goto (tgt := 25) hx hb dL_glue_14 (by decide) ?_
    refine lv_iconst (v := 0) hx hb dL_glue_25 (by decide) ?_
    exact bk_qr ⟨rfl, rfl, e9⟩ (bk_iret C hH dL_glue_26)
def rm_L_patch : Room := bk_rm 11 3 17 268
set_option maxRecDepth 100000 in
set_option maxHeartbeats 4000000 in
theorem h_L_patch {l : Launch} {G : bk_G} {N : Nat} {Y : bk_Lay} {V : bk_Val} (hst : l.stackTraces = false) {a0 : Nat} {x1 : Int32} {x2 : Int32} {x3 : Int32} {x4 : Int32} {x5 : Int32} {a6 : Nat} {out : Nat ⊕ (Int32 × bk_Lay × bk_Val)} (hq : q_X11_patch N Y V a0 x1 x2 x3 x4 x5 = some out) (hs : bk_sh Y a0 = (1, 10)) (he : ∀ e, out = .inl e → e = 1 ∨ e = 2) (ho : ∀ o, out = .inr o → bk_sh ((fun o : Int32 × bk_Lay × bk_Val => ((if o.1 = 0 then 0 else 1 : Int64), o.2.1, o.2.2)) o).2.1 a6 = (3, 1)) : vx_Met l yL_patch (bk_wh yL_patch cL_patch 8 (some FieldType.int) [(0, 23, 26, 18), (0, 23, 30, 13)]) rm_L_patch (bk_Pc G [.ref a0, .int x1, .int x2, .int x3, .int x4, .int x5, .ref a6] Y V) (bk_QR G (bk_hr Y V a6 (fun e => if e = 1 then 1 else 2) (bk_on (fun o : Int32 × bk_Lay × bk_Val => ((if o.1 = 0 then 0 else 1 : Int64), o.2.1, o.2.2)) out))) bk_nx 3 17 (bk_A G) := by
  refine bk_meth (by decide) (Nat.le_of_ble_eq_true rfl) (fun p e s m args below meth c ls C hT hH hl => ?_)
  have hx := C.1
  have hb := C.2.1
  refine lv_aload hx hb dL_patch_0 (lv_at hl 6 rfl) ?_
  refine lv_iconst (v := 0) hx hb dL_patch_2 (by decide) ?_
  refine lv_aload_n hx hb dL_patch_3 rfl (lv_at hl 0 rfl) ?_
  refine lv_iload_n hx hb dL_patch_4 rfl (lv_at hl 1 rfl) ?_
  refine lv_iload_n hx hb dL_patch_5 rfl (lv_at hl 2 rfl) ?_
  refine lv_iload_n hx hb dL_patch_6 rfl (lv_at hl 3 rfl) ?_
  refine lv_iload hx hb dL_patch_7 (lv_at hl 4 rfl) ?_
  refine lv_iload hx hb dL_patch_9 (lv_at hl 5 rfl) ?_
  cases out with
  | inl e9 =>
    rcases he e9 rfl with rfl | rfl
    · skip
      refine bk_callVk (rest := [.int 0, .ref a6]) (As := [.int x1, .int x2, .int x3, .int x4, .int x5]) (e9 := 1) C hH hl.1 (c_X11_patch hst hq) mc_X11_patch mv_X11_patch lw_RL_57 hs rfl rfl ⟨rfl, rfl⟩ ⟨by decide, by decide⟩ rfl (Nat.le_of_ble_eq_true rfl) dL_patch_11 ⟨by decide, by decide⟩ [] ⟨0, 23, 26, 18⟩ [⟨0, 23, 30, 13⟩] hT (fun z hz => nomatch hz) (by decide) (by decide) lc_RL_18 (by decide +kernel) (fun q9 z9 H locs hz9 hH => ?_)
      refine lv_astore (lv' := [(7, .ref q9), (0, .ref a0), (1, .int x1), (2, .int x2), (3, .int x3), (4, .int x4), (5, .int x5), (6, .ref a6)]) hx hb dL_patch_26 hl (by decide) rfl (fun ls hl => ?_)
      refine lv_iconst (v := 1) hx hb dL_patch_28 (by decide) ?_
      exact bk_qr ⟨by decide, rfl, z9, hz9, rfl⟩ (bk_iret C hH dL_patch_29)
    · skip
      refine bk_callVk (rest := [.int 0, .ref a6]) (As := [.int x1, .int x2, .int x3, .int x4, .int x5]) (e9 := 2) C hH hl.1 (c_X11_patch hst hq) mc_X11_patch mv_X11_patch lw_RL_57 hs rfl rfl ⟨rfl, rfl⟩ ⟨by decide, by decide⟩ rfl (Nat.le_of_ble_eq_true rfl) dL_patch_11 ⟨by decide, by decide⟩ [⟨0, 23, 26, 18⟩] ⟨0, 23, 30, 13⟩ [] hT (fun z hz => by
          cases hz with
          | head => exact ⟨by decide, _, lc_RL_18, C.2.2.2.2.2.2.2.2.2.2.2⟩
          | tail _ h => exact nomatch h) (by decide) (by decide) lc_RL_13 (by decide +kernel) (fun q9 z9 H locs hz9 hH => ?_)
      refine lv_astore (lv' := [(7, .ref q9), (0, .ref a0), (1, .int x1), (2, .int x2), (3, .int x3), (4, .int x4), (5, .int x5), (6, .ref a6)]) hx hb dL_patch_30 hl (by decide) rfl (fun ls hl => ?_)
      refine lv_iconst (v := 2) hx hb dL_patch_32 (by decide) ?_
      exact bk_qr ⟨by decide, rfl, z9, hz9, rfl⟩ (bk_iret C hH dL_patch_33)
  | inr o9 =>
    have ho9 := ho o9 rfl
    refine bk_callVr (f := fun (o : Int32 × bk_Lay × bk_Val) => bk_Q G (some (.int o.1)) o.2.1 o.2.2) (o1 := o9) (rest := [.int 0, .ref a6]) (As := [.int x1, .int x2, .int x3, .int x4, .int x5]) (ro := some (.int o9.1)) (Y1 := o9.2.1) (V1 := o9.2.2) rfl C hH hl.1 (c_X11_patch hst hq) mc_X11_patch mv_X11_patch lw_RL_57 hs rfl rfl ⟨rfl, rfl⟩ ⟨by decide, by decide⟩ rfl (Nat.le_of_ble_eq_true rfl) dL_patch_11 ⟨by decide, by decide⟩ (fun H locs hH => ?_)
    refine lv_if_eq (tgt := 21) hx hb dL_patch_14 (by decide) (fun hc => ?_) (fun hc => ?_)
    · skip
      refine lv_lconst (v := 0) hx hb dL_patch_21 (by decide) ?_
      refine bk_last C hH ho9 bk_in01 dL_patch_22 (fun V9 H locs e9 hH => ?_)
      refine lv_goto (tgt := 34) hx hb dL_patch_23 (by decide) ?_
      refine lv_iconst (v := 0) hx hb dL_patch_34 (by decide) ?_
      exact bk_qr ⟨rfl, rfl, by rw [e9]; simp only [hc, if_true]; rfl⟩ (bk_iret C hH dL_patch_35)
    · skip
      refine lv_lconst (v := 1) hx hb dL_patch_17 (by decide) ?_
      refine lv_goto (tgt := 22) hx hb dL_patch_18 (by decide) ?_
      refine bk_last C hH ho9 bk_in01 dL_patch_22 (fun V9 H locs e9 hH => ?_)
      refine lv_goto (tgt := 34) hx hb dL_patch_23 (by decide) ?_
      refine lv_iconst (v := 0) hx hb dL_patch_34 (by decide) ?_
      exact bk_qr ⟨rfl, rfl, by rw [e9]; simp only [if_neg hc]; rfl⟩ (bk_iret C hH dL_patch_35)
def rm_L_feel : Room := bk_rm 10 1 6 243
set_option maxRecDepth 100000 in
set_option maxHeartbeats 4000000 in
theorem h_L_feel {l : Launch} {G : bk_G} {N : Nat} {Y : bk_Lay} {V : bk_Val} (hst : l.stackTraces = false) {a0 : Nat} {x1 : Int32} {a2 : Nat} {out : Nat ⊕ (Int32)} (hq : q_X11_feel N Y V a0 x1 = some out) (hs : bk_sh Y a0 = (1, 10)) (he : ∀ e, out = .inl e → e = 1) (ho : ∀ o, out = .inr o → bk_sh ((fun o : Int32 => (o.toInt64, Y, V)) o).2.1 a2 = (3, 1)) : vx_Met l yL_feel (bk_wh yL_feel cL_feel 4 (some FieldType.int) [(0, 9, 12, 18)]) rm_L_feel (bk_Pc G [.ref a0, .int x1, .ref a2] Y V) (bk_QR G (bk_hr Y V a2 (fun _ => 1) (bk_on (fun o : Int32 => (o.toInt64, Y, V)) out))) bk_nx 1 6 (bk_A G) := by
  refine bk_meth (by decide) (Nat.le_of_ble_eq_true rfl) (fun p e s m args below meth c ls C hT hH hl => ?_)
  have hx := C.1
  have hb := C.2.1
  refine lv_aload_n hx hb dL_feel_0 rfl (lv_at hl 2 rfl) ?_
  refine lv_iconst (v := 0) hx hb dL_feel_1 (by decide) ?_
  refine lv_aload_n hx hb dL_feel_2 rfl (lv_at hl 0 rfl) ?_
  refine lv_iload_n hx hb dL_feel_3 rfl (lv_at hl 1 rfl) ?_
  cases out with
  | inl e9 =>
    obtain rfl := he e9 rfl
    refine bk_callVk (rest := [.int 0, .ref a2]) (As := [.int x1]) (e9 := 1) C hH hl.1 (c_X11_feel hst hq) mc_X11_feel mv_X11_feel lw_RL_61 hs rfl rfl ⟨rfl, rfl⟩ ⟨by decide, by decide⟩ rfl (Nat.le_of_ble_eq_true rfl) dL_feel_4 ⟨by decide, by decide⟩ [] ⟨0, 9, 12, 18⟩ [] hT (fun z hz => nomatch hz) (by decide) (by decide) lc_RL_18 (by decide +kernel) (fun q9 z9 H locs hz9 hH => ?_)
    refine lv_astore_n (lv' := [(3, .ref q9), (0, .ref a0), (1, .int x1), (2, .ref a2)]) hx hb dL_feel_12 rfl hl (by decide) rfl (fun ls hl => ?_)
    refine lv_iconst (v := 1) hx hb dL_feel_13 (by decide) ?_
    exact bk_qr ⟨by decide, rfl, z9, hz9, rfl⟩ (bk_iret C hH dL_feel_14)
  | inr o9 =>
    have ho9 := ho o9 rfl
    refine bk_callVr (f := fun (o : Int32) => bk_Q G (some (.int o)) Y V) (o1 := o9) (rest := [.int 0, .ref a2]) (As := [.int x1]) (ro := some (.int o9)) (Y1 := Y) (V1 := V) rfl C hH hl.1 (c_X11_feel hst hq) mc_X11_feel mv_X11_feel lw_RL_61 hs rfl rfl ⟨rfl, rfl⟩ ⟨by decide, by decide⟩ rfl (Nat.le_of_ble_eq_true rfl) dL_feel_4 ⟨by decide, by decide⟩ (fun H locs hH => ?_)
    refine lv_i2l hx hb dL_feel_7 rfl ?_
    refine bk_last C hH ho9 bk_in01 dL_feel_8 (fun V9 H locs e9 hH => ?_)
    refine lv_goto (tgt := 15) hx hb dL_feel_9 (by decide) ?_
    refine lv_iconst (v := 0) hx hb dL_feel_15 (by decide) ?_
    exact bk_qr ⟨rfl, rfl, e9⟩ (bk_iret C hH dL_feel_16)
def rm_L_fits : Room := bk_rm 10 1 6 244
set_option maxRecDepth 100000 in
set_option maxHeartbeats 4000000 in
theorem h_L_fits {l : Launch} {G : bk_G} {N : Nat} {Y : bk_Lay} {V : bk_Val} (hst : l.stackTraces = false) {a0 : Nat} {x1 : Int32} {a2 : Nat} {out : Nat ⊕ (Int32)} (hq : q_X11_fits N Y V a0 x1 = some out) (hs : bk_sh Y a0 = (1, 10)) (he : ∀ e, out = .inl e → e = 1) (ho : ∀ o, out = .inr o → bk_sh ((fun o : Int32 => (o.toInt64, Y, V)) o).2.1 a2 = (3, 1)) : vx_Met l yL_fits (bk_wh yL_fits cL_fits 4 (some FieldType.int) [(0, 9, 12, 18)]) rm_L_fits (bk_Pc G [.ref a0, .int x1, .ref a2] Y V) (bk_QR G (bk_hr Y V a2 (fun _ => 1) (bk_on (fun o : Int32 => (o.toInt64, Y, V)) out))) bk_nx 1 6 (bk_A G) := by
  refine bk_meth (by decide) (Nat.le_of_ble_eq_true rfl) (fun p e s m args below meth c ls C hT hH hl => ?_)
  have hx := C.1
  have hb := C.2.1
  refine lv_aload_n hx hb dL_fits_0 rfl (lv_at hl 2 rfl) ?_
  refine lv_iconst (v := 0) hx hb dL_fits_1 (by decide) ?_
  refine lv_aload_n hx hb dL_fits_2 rfl (lv_at hl 0 rfl) ?_
  refine lv_iload_n hx hb dL_fits_3 rfl (lv_at hl 1 rfl) ?_
  cases out with
  | inl e9 =>
    obtain rfl := he e9 rfl
    refine bk_callVk (rest := [.int 0, .ref a2]) (As := [.int x1]) (e9 := 1) C hH hl.1 (c_X11_fits hst hq) mc_X11_fits mv_X11_fits lw_RL_64 hs rfl rfl ⟨rfl, rfl⟩ ⟨by decide, by decide⟩ rfl (Nat.le_of_ble_eq_true rfl) dL_fits_4 ⟨by decide, by decide⟩ [] ⟨0, 9, 12, 18⟩ [] hT (fun z hz => nomatch hz) (by decide) (by decide) lc_RL_18 (by decide +kernel) (fun q9 z9 H locs hz9 hH => ?_)
    refine lv_astore_n (lv' := [(3, .ref q9), (0, .ref a0), (1, .int x1), (2, .ref a2)]) hx hb dL_fits_12 rfl hl (by decide) rfl (fun ls hl => ?_)
    refine lv_iconst (v := 1) hx hb dL_fits_13 (by decide) ?_
    exact bk_qr ⟨by decide, rfl, z9, hz9, rfl⟩ (bk_iret C hH dL_fits_14)
  | inr o9 =>
    have ho9 := ho o9 rfl
    refine bk_callVr (f := fun (o : Int32) => bk_Q G (some (.int o)) Y V) (o1 := o9) (rest := [.int 0, .ref a2]) (As := [.int x1]) (ro := some (.int o9)) (Y1 := Y) (V1 := V) rfl C hH hl.1 (c_X11_fits hst hq) mc_X11_fits mv_X11_fits lw_RL_64 hs rfl rfl ⟨rfl, rfl⟩ ⟨by decide, by decide⟩ rfl (Nat.le_of_ble_eq_true rfl) dL_fits_4 ⟨by decide, by decide⟩ (fun H locs hH => ?_)
    refine lv_i2l hx hb dL_fits_7 rfl ?_
    refine bk_last C hH ho9 bk_in01 dL_fits_8 (fun V9 H locs e9 hH => ?_)
    refine lv_goto (tgt := 15) hx hb dL_fits_9 (by decide) ?_
    refine lv_iconst (v := 0) hx hb dL_fits_15 (by decide) ?_
    exact bk_qr ⟨rfl, rfl, e9⟩ (bk_iret C hH dL_fits_16)
def rm_L_cause : Room := bk_rm 11 2 12 271
set_option maxRecDepth 100000 in
set_option maxHeartbeats 4000000 in
theorem h_L_cause {l : Launch} {G : bk_G} {N : Nat} {Y : bk_Lay} {V : bk_Val} (hst : l.stackTraces = false) {a0 : Nat} {x1 : Int32} {x2 : Int32} {a3 : Nat} {out : Nat ⊕ (Int32)} (hq : q_X11_cause N Y V a0 x1 x2 = some out) (hs : bk_sh Y a0 = (1, 10)) (he : ∀ e, out = .inl e → e = 1) (ho : ∀ o, out = .inr o → bk_sh ((fun o : Int32 => (o.toInt64, Y, V)) o).2.1 a3 = (3, 1)) : vx_Met l yL_cause (bk_wh yL_cause cL_cause 5 (some FieldType.int) [(0, 10, 13, 18)]) rm_L_cause (bk_Pc G [.ref a0, .int x1, .int x2, .ref a3] Y V) (bk_QR G (bk_hr Y V a3 (fun _ => 1) (bk_on (fun o : Int32 => (o.toInt64, Y, V)) out))) bk_nx 2 12 (bk_A G) := by
  refine bk_meth (by decide) (Nat.le_of_ble_eq_true rfl) (fun p e s m args below meth c ls C hT hH hl => ?_)
  have hx := C.1
  have hb := C.2.1
  refine lv_aload_n hx hb dL_cause_0 rfl (lv_at hl 3 rfl) ?_
  refine lv_iconst (v := 0) hx hb dL_cause_1 (by decide) ?_
  refine lv_aload_n hx hb dL_cause_2 rfl (lv_at hl 0 rfl) ?_
  refine lv_iload_n hx hb dL_cause_3 rfl (lv_at hl 1 rfl) ?_
  refine lv_iload_n hx hb dL_cause_4 rfl (lv_at hl 2 rfl) ?_
  cases out with
  | inl e9 =>
    obtain rfl := he e9 rfl
    refine bk_callVk (rest := [.int 0, .ref a3]) (As := [.int x1, .int x2]) (e9 := 1) C hH hl.1 (c_X11_cause hst hq) mc_X11_cause mv_X11_cause lw_RL_67 hs rfl rfl ⟨rfl, rfl⟩ ⟨by decide, by decide⟩ rfl (Nat.le_of_ble_eq_true rfl) dL_cause_5 ⟨by decide, by decide⟩ [] ⟨0, 10, 13, 18⟩ [] hT (fun z hz => nomatch hz) (by decide) (by decide) lc_RL_18 (by decide +kernel) (fun q9 z9 H locs hz9 hH => ?_)
    refine lv_astore (lv' := [(4, .ref q9), (0, .ref a0), (1, .int x1), (2, .int x2), (3, .ref a3)]) hx hb dL_cause_13 hl (by decide) rfl (fun ls hl => ?_)
    refine lv_iconst (v := 1) hx hb dL_cause_15 (by decide) ?_
    exact bk_qr ⟨by decide, rfl, z9, hz9, rfl⟩ (bk_iret C hH dL_cause_16)
  | inr o9 =>
    have ho9 := ho o9 rfl
    refine bk_callVr (f := fun (o : Int32) => bk_Q G (some (.int o)) Y V) (o1 := o9) (rest := [.int 0, .ref a3]) (As := [.int x1, .int x2]) (ro := some (.int o9)) (Y1 := Y) (V1 := V) rfl C hH hl.1 (c_X11_cause hst hq) mc_X11_cause mv_X11_cause lw_RL_67 hs rfl rfl ⟨rfl, rfl⟩ ⟨by decide, by decide⟩ rfl (Nat.le_of_ble_eq_true rfl) dL_cause_5 ⟨by decide, by decide⟩ (fun H locs hH => ?_)
    refine lv_i2l hx hb dL_cause_8 rfl ?_
    refine bk_last C hH ho9 bk_in01 dL_cause_9 (fun V9 H locs e9 hH => ?_)
    refine lv_goto (tgt := 17) hx hb dL_cause_10 (by decide) ?_
    refine lv_iconst (v := 0) hx hb dL_cause_17 (by decide) ?_
    exact bk_qr ⟨rfl, rfl, e9⟩ (bk_iret C hH dL_cause_18)
def rm_L_ride : Room := bk_rm 10 2 12 243
set_option maxRecDepth 100000 in
set_option maxHeartbeats 4000000 in
theorem h_L_ride {l : Launch} {G : bk_G} {N : Nat} {Y : bk_Lay} {V : bk_Val} (hst : l.stackTraces = false) {a0 : Nat} {x1 : Int32} {x2 : Int32} {a3 : Nat} {out : Nat ⊕ (Int32 × bk_Val)} (hq : q_X11_ride N Y V a0 x1 x2 = some out) (hs : bk_sh Y a0 = (1, 10)) (he : ∀ e, out = .inl e → e = 1 ∨ e = 2) (ho : ∀ o, out = .inr o → bk_sh ((fun o : Int32 × bk_Val => (o.1.toInt64, Y, o.2)) o).2.1 a3 = (3, 1)) : vx_Met l yL_ride (bk_wh yL_ride cL_ride 5 (some FieldType.int) [(0, 10, 13, 18), (0, 10, 17, 13)]) rm_L_ride (bk_Pc G [.ref a0, .int x1, .int x2, .ref a3] Y V) (bk_QR G (bk_hr Y V a3 (fun e => if e = 1 then 1 else 2) (bk_on (fun o : Int32 × bk_Val => (o.1.toInt64, Y, o.2)) out))) bk_nx 2 12 (bk_A G) := by
  refine bk_meth (by decide) (Nat.le_of_ble_eq_true rfl) (fun p e s m args below meth c ls C hT hH hl => ?_)
  have hx := C.1
  have hb := C.2.1
  refine lv_aload_n hx hb dL_ride_0 rfl (lv_at hl 3 rfl) ?_
  refine lv_iconst (v := 0) hx hb dL_ride_1 (by decide) ?_
  refine lv_aload_n hx hb dL_ride_2 rfl (lv_at hl 0 rfl) ?_
  refine lv_iload_n hx hb dL_ride_3 rfl (lv_at hl 1 rfl) ?_
  refine lv_iload_n hx hb dL_ride_4 rfl (lv_at hl 2 rfl) ?_
  cases out with
  | inl e9 =>
    rcases he e9 rfl with rfl | rfl
    · skip
      refine bk_callVk (rest := [.int 0, .ref a3]) (As := [.int x1, .int x2]) (e9 := 1) C hH hl.1 (c_X11_ride hst hq) mc_X11_ride mv_X11_ride lw_RL_70 hs rfl rfl ⟨rfl, rfl⟩ ⟨by decide, by decide⟩ rfl (Nat.le_of_ble_eq_true rfl) dL_ride_5 ⟨by decide, by decide⟩ [] ⟨0, 10, 13, 18⟩ [⟨0, 10, 17, 13⟩] hT (fun z hz => nomatch hz) (by decide) (by decide) lc_RL_18 (by decide +kernel) (fun q9 z9 H locs hz9 hH => ?_)
      refine lv_astore (lv' := [(4, .ref q9), (0, .ref a0), (1, .int x1), (2, .int x2), (3, .ref a3)]) hx hb dL_ride_13 hl (by decide) rfl (fun ls hl => ?_)
      refine lv_iconst (v := 1) hx hb dL_ride_15 (by decide) ?_
      exact bk_qr ⟨by decide, rfl, z9, hz9, rfl⟩ (bk_iret C hH dL_ride_16)
    · skip
      refine bk_callVk (rest := [.int 0, .ref a3]) (As := [.int x1, .int x2]) (e9 := 2) C hH hl.1 (c_X11_ride hst hq) mc_X11_ride mv_X11_ride lw_RL_70 hs rfl rfl ⟨rfl, rfl⟩ ⟨by decide, by decide⟩ rfl (Nat.le_of_ble_eq_true rfl) dL_ride_5 ⟨by decide, by decide⟩ [⟨0, 10, 13, 18⟩] ⟨0, 10, 17, 13⟩ [] hT (fun z hz => by
          cases hz with
          | head => exact ⟨by decide, _, lc_RL_18, C.2.2.2.2.2.2.2.2.2.2.2⟩
          | tail _ h => exact nomatch h) (by decide) (by decide) lc_RL_13 (by decide +kernel) (fun q9 z9 H locs hz9 hH => ?_)
      refine lv_astore (lv' := [(4, .ref q9), (0, .ref a0), (1, .int x1), (2, .int x2), (3, .ref a3)]) hx hb dL_ride_17 hl (by decide) rfl (fun ls hl => ?_)
      refine lv_iconst (v := 2) hx hb dL_ride_19 (by decide) ?_
      exact bk_qr ⟨by decide, rfl, z9, hz9, rfl⟩ (bk_iret C hH dL_ride_20)
  | inr o9 =>
    have ho9 := ho o9 rfl
    refine bk_callVr (f := fun (o : Int32 × bk_Val) => bk_Q G (some (.int o.1)) Y o.2) (o1 := o9) (rest := [.int 0, .ref a3]) (As := [.int x1, .int x2]) (ro := some (.int o9.1)) (Y1 := Y) (V1 := o9.2) rfl C hH hl.1 (c_X11_ride hst hq) mc_X11_ride mv_X11_ride lw_RL_70 hs rfl rfl ⟨rfl, rfl⟩ ⟨by decide, by decide⟩ rfl (Nat.le_of_ble_eq_true rfl) dL_ride_5 ⟨by decide, by decide⟩ (fun H locs hH => ?_)
    refine lv_i2l hx hb dL_ride_8 rfl ?_
    refine bk_last C hH ho9 bk_in01 dL_ride_9 (fun V9 H locs e9 hH => ?_)
    refine lv_goto (tgt := 21) hx hb dL_ride_10 (by decide) ?_
    refine lv_iconst (v := 0) hx hb dL_ride_21 (by decide) ?_
    exact bk_qr ⟨rfl, rfl, e9⟩ (bk_iret C hH dL_ride_22)
def rm_L_best : Room := bk_rm 10 2 12 250
set_option maxRecDepth 100000 in
set_option maxHeartbeats 4000000 in
theorem h_L_best {l : Launch} {G : bk_G} {N : Nat} {Y : bk_Lay} {V : bk_Val} (hst : l.stackTraces = false) {a0 : Nat} {x1 : Int32} {x2 : Int32} {x3 : Int32} {x4 : Int32} {x5 : Int32} {a6 : Nat} {out : Nat ⊕ (Int32 × bk_Val)} (hq : q_X11_best N Y V a0 x1 x2 x3 x4 x5 = some out) (hs : bk_sh Y a0 = (1, 10)) (he : ∀ e, out = .inl e → e = 1 ∨ e = 2) (ho : ∀ o, out = .inr o → bk_sh ((fun o : Int32 × bk_Val => (o.1.toInt64, Y, o.2)) o).2.1 a6 = (3, 1)) : vx_Met l yL_best (bk_wh yL_best cL_best 8 (some FieldType.int) [(0, 16, 19, 18), (0, 16, 23, 13)]) rm_L_best (bk_Pc G [.ref a0, .int x1, .int x2, .int x3, .int x4, .int x5, .ref a6] Y V) (bk_QR G (bk_hr Y V a6 (fun e => if e = 1 then 1 else 2) (bk_on (fun o : Int32 × bk_Val => (o.1.toInt64, Y, o.2)) out))) bk_nx 2 12 (bk_A G) := by
  refine bk_meth (by decide) (Nat.le_of_ble_eq_true rfl) (fun p e s m args below meth c ls C hT hH hl => ?_)
  have hx := C.1
  have hb := C.2.1
  refine lv_aload hx hb dL_best_0 (lv_at hl 6 rfl) ?_
  refine lv_iconst (v := 0) hx hb dL_best_2 (by decide) ?_
  refine lv_aload_n hx hb dL_best_3 rfl (lv_at hl 0 rfl) ?_
  refine lv_iload_n hx hb dL_best_4 rfl (lv_at hl 1 rfl) ?_
  refine lv_iload_n hx hb dL_best_5 rfl (lv_at hl 2 rfl) ?_
  refine lv_iload_n hx hb dL_best_6 rfl (lv_at hl 3 rfl) ?_
  refine lv_iload hx hb dL_best_7 (lv_at hl 4 rfl) ?_
  refine lv_iload hx hb dL_best_9 (lv_at hl 5 rfl) ?_
  cases out with
  | inl e9 =>
    rcases he e9 rfl with rfl | rfl
    · skip
      refine bk_callVk (rest := [.int 0, .ref a6]) (As := [.int x1, .int x2, .int x3, .int x4, .int x5]) (e9 := 1) C hH hl.1 (c_X11_best hst hq) mc_X11_best mv_X11_best lw_RL_73 hs rfl rfl ⟨rfl, rfl⟩ ⟨by decide, by decide⟩ rfl (Nat.le_of_ble_eq_true rfl) dL_best_11 ⟨by decide, by decide⟩ [] ⟨0, 16, 19, 18⟩ [⟨0, 16, 23, 13⟩] hT (fun z hz => nomatch hz) (by decide) (by decide) lc_RL_18 (by decide +kernel) (fun q9 z9 H locs hz9 hH => ?_)
      refine lv_astore (lv' := [(7, .ref q9), (0, .ref a0), (1, .int x1), (2, .int x2), (3, .int x3), (4, .int x4), (5, .int x5), (6, .ref a6)]) hx hb dL_best_19 hl (by decide) rfl (fun ls hl => ?_)
      refine lv_iconst (v := 1) hx hb dL_best_21 (by decide) ?_
      exact bk_qr ⟨by decide, rfl, z9, hz9, rfl⟩ (bk_iret C hH dL_best_22)
    · skip
      refine bk_callVk (rest := [.int 0, .ref a6]) (As := [.int x1, .int x2, .int x3, .int x4, .int x5]) (e9 := 2) C hH hl.1 (c_X11_best hst hq) mc_X11_best mv_X11_best lw_RL_73 hs rfl rfl ⟨rfl, rfl⟩ ⟨by decide, by decide⟩ rfl (Nat.le_of_ble_eq_true rfl) dL_best_11 ⟨by decide, by decide⟩ [⟨0, 16, 19, 18⟩] ⟨0, 16, 23, 13⟩ [] hT (fun z hz => by
          cases hz with
          | head => exact ⟨by decide, _, lc_RL_18, C.2.2.2.2.2.2.2.2.2.2.2⟩
          | tail _ h => exact nomatch h) (by decide) (by decide) lc_RL_13 (by decide +kernel) (fun q9 z9 H locs hz9 hH => ?_)
      refine lv_astore (lv' := [(7, .ref q9), (0, .ref a0), (1, .int x1), (2, .int x2), (3, .int x3), (4, .int x4), (5, .int x5), (6, .ref a6)]) hx hb dL_best_23 hl (by decide) rfl (fun ls hl => ?_)
      refine lv_iconst (v := 2) hx hb dL_best_25 (by decide) ?_
      exact bk_qr ⟨by decide, rfl, z9, hz9, rfl⟩ (bk_iret C hH dL_best_26)
  | inr o9 =>
    have ho9 := ho o9 rfl
    refine bk_callVr (f := fun (o : Int32 × bk_Val) => bk_Q G (some (.int o.1)) Y o.2) (o1 := o9) (rest := [.int 0, .ref a6]) (As := [.int x1, .int x2, .int x3, .int x4, .int x5]) (ro := some (.int o9.1)) (Y1 := Y) (V1 := o9.2) rfl C hH hl.1 (c_X11_best hst hq) mc_X11_best mv_X11_best lw_RL_73 hs rfl rfl ⟨rfl, rfl⟩ ⟨by decide, by decide⟩ rfl (Nat.le_of_ble_eq_true rfl) dL_best_11 ⟨by decide, by decide⟩ (fun H locs hH => ?_)
    refine lv_i2l hx hb dL_best_14 rfl ?_
    refine bk_last C hH ho9 bk_in01 dL_best_15 (fun V9 H locs e9 hH => ?_)
    refine lv_goto (tgt := 27) hx hb dL_best_16 (by decide) ?_
    refine lv_iconst (v := 0) hx hb dL_best_27 (by decide) ?_
    exact bk_qr ⟨rfl, rfl, e9⟩ (bk_iret C hH dL_best_28)
def rm_L_dark : Room := bk_rm 10 1 6 241
set_option maxRecDepth 100000 in
set_option maxHeartbeats 4000000 in
theorem h_L_dark {l : Launch} {G : bk_G} {N : Nat} {Y : bk_Lay} {V : bk_Val} (hst : l.stackTraces = false) {a0 : Nat} {x1 : Int32} {a2 : Nat} {out : Nat ⊕ (Int32 × bk_Val)} (hq : q_X11_dark N Y V a0 x1 = some out) (hs : bk_sh Y a0 = (1, 10)) (he : ∀ e, out = .inl e → e = 1) (ho : ∀ o, out = .inr o → bk_sh ((fun o : Int32 × bk_Val => (o.1.toInt64, Y, o.2)) o).2.1 a2 = (3, 1)) : vx_Met l yL_dark (bk_wh yL_dark cL_dark 4 (some FieldType.int) [(0, 9, 12, 18)]) rm_L_dark (bk_Pc G [.ref a0, .int x1, .ref a2] Y V) (bk_QR G (bk_hr Y V a2 (fun _ => 1) (bk_on (fun o : Int32 × bk_Val => (o.1.toInt64, Y, o.2)) out))) bk_nx 1 6 (bk_A G) := by
  refine bk_meth (by decide) (Nat.le_of_ble_eq_true rfl) (fun p e s m args below meth c ls C hT hH hl => ?_)
  have hx := C.1
  have hb := C.2.1
  refine lv_aload_n hx hb dL_dark_0 rfl (lv_at hl 2 rfl) ?_
  refine lv_iconst (v := 0) hx hb dL_dark_1 (by decide) ?_
  refine lv_aload_n hx hb dL_dark_2 rfl (lv_at hl 0 rfl) ?_
  refine lv_iload_n hx hb dL_dark_3 rfl (lv_at hl 1 rfl) ?_
  cases out with
  | inl e9 =>
    obtain rfl := he e9 rfl
    refine bk_callVk (rest := [.int 0, .ref a2]) (As := [.int x1]) (e9 := 1) C hH hl.1 (c_X11_dark hst hq) mc_X11_dark mv_X11_dark lw_RL_77 hs rfl rfl ⟨rfl, rfl⟩ ⟨by decide, by decide⟩ rfl (Nat.le_of_ble_eq_true rfl) dL_dark_4 ⟨by decide, by decide⟩ [] ⟨0, 9, 12, 18⟩ [] hT (fun z hz => nomatch hz) (by decide) (by decide) lc_RL_18 (by decide +kernel) (fun q9 z9 H locs hz9 hH => ?_)
    refine lv_astore_n (lv' := [(3, .ref q9), (0, .ref a0), (1, .int x1), (2, .ref a2)]) hx hb dL_dark_12 rfl hl (by decide) rfl (fun ls hl => ?_)
    refine lv_iconst (v := 1) hx hb dL_dark_13 (by decide) ?_
    exact bk_qr ⟨by decide, rfl, z9, hz9, rfl⟩ (bk_iret C hH dL_dark_14)
  | inr o9 =>
    have ho9 := ho o9 rfl
    refine bk_callVr (f := fun (o : Int32 × bk_Val) => bk_Q G (some (.int o.1)) Y o.2) (o1 := o9) (rest := [.int 0, .ref a2]) (As := [.int x1]) (ro := some (.int o9.1)) (Y1 := Y) (V1 := o9.2) rfl C hH hl.1 (c_X11_dark hst hq) mc_X11_dark mv_X11_dark lw_RL_77 hs rfl rfl ⟨rfl, rfl⟩ ⟨by decide, by decide⟩ rfl (Nat.le_of_ble_eq_true rfl) dL_dark_4 ⟨by decide, by decide⟩ (fun H locs hH => ?_)
    refine lv_i2l hx hb dL_dark_7 rfl ?_
    refine bk_last C hH ho9 bk_in01 dL_dark_8 (fun V9 H locs e9 hH => ?_)
    refine lv_goto (tgt := 15) hx hb dL_dark_9 (by decide) ?_
    refine lv_iconst (v := 0) hx hb dL_dark_15 (by decide) ?_
    exact bk_qr ⟨rfl, rfl, e9⟩ (bk_iret C hH dL_dark_16)
def rm_L_mean : Room := bk_rm 10 1 6 246
set_option maxRecDepth 100000 in
set_option maxHeartbeats 4000000 in
theorem h_L_mean {l : Launch} {G : bk_G} {N : Nat} {Y : bk_Lay} {V : bk_Val} (hst : l.stackTraces = false) {a0 : Nat} {x1 : Int32} {a2 : Nat} {out : Nat ⊕ (Int32 × bk_Val)} (hq : q_X11_mean N Y V a0 x1 = some out) (hs : bk_sh Y a0 = (1, 10)) (he : ∀ e, out = .inl e → e = 1) (ho : ∀ o, out = .inr o → bk_sh ((fun o : Int32 × bk_Val => (o.1.toInt64, Y, o.2)) o).2.1 a2 = (3, 1)) : vx_Met l yL_mean (bk_wh yL_mean cL_mean 4 (some FieldType.int) [(0, 9, 12, 18)]) rm_L_mean (bk_Pc G [.ref a0, .int x1, .ref a2] Y V) (bk_QR G (bk_hr Y V a2 (fun _ => 1) (bk_on (fun o : Int32 × bk_Val => (o.1.toInt64, Y, o.2)) out))) bk_nx 1 6 (bk_A G) := by
  refine bk_meth (by decide) (Nat.le_of_ble_eq_true rfl) (fun p e s m args below meth c ls C hT hH hl => ?_)
  have hx := C.1
  have hb := C.2.1
  refine lv_aload_n hx hb dL_mean_0 rfl (lv_at hl 2 rfl) ?_
  refine lv_iconst (v := 0) hx hb dL_mean_1 (by decide) ?_
  refine lv_aload_n hx hb dL_mean_2 rfl (lv_at hl 0 rfl) ?_
  refine lv_iload_n hx hb dL_mean_3 rfl (lv_at hl 1 rfl) ?_
  cases out with
  | inl e9 =>
    obtain rfl := he e9 rfl
    refine bk_callVk (rest := [.int 0, .ref a2]) (As := [.int x1]) (e9 := 1) C hH hl.1 (c_X11_mean hst hq) mc_X11_mean mv_X11_mean lw_RL_80 hs rfl rfl ⟨rfl, rfl⟩ ⟨by decide, by decide⟩ rfl (Nat.le_of_ble_eq_true rfl) dL_mean_4 ⟨by decide, by decide⟩ [] ⟨0, 9, 12, 18⟩ [] hT (fun z hz => nomatch hz) (by decide) (by decide) lc_RL_18 (by decide +kernel) (fun q9 z9 H locs hz9 hH => ?_)
    refine lv_astore_n (lv' := [(3, .ref q9), (0, .ref a0), (1, .int x1), (2, .ref a2)]) hx hb dL_mean_12 rfl hl (by decide) rfl (fun ls hl => ?_)
    refine lv_iconst (v := 1) hx hb dL_mean_13 (by decide) ?_
    exact bk_qr ⟨by decide, rfl, z9, hz9, rfl⟩ (bk_iret C hH dL_mean_14)
  | inr o9 =>
    have ho9 := ho o9 rfl
    refine bk_callVr (f := fun (o : Int32 × bk_Val) => bk_Q G (some (.int o.1)) Y o.2) (o1 := o9) (rest := [.int 0, .ref a2]) (As := [.int x1]) (ro := some (.int o9.1)) (Y1 := Y) (V1 := o9.2) rfl C hH hl.1 (c_X11_mean hst hq) mc_X11_mean mv_X11_mean lw_RL_80 hs rfl rfl ⟨rfl, rfl⟩ ⟨by decide, by decide⟩ rfl (Nat.le_of_ble_eq_true rfl) dL_mean_4 ⟨by decide, by decide⟩ (fun H locs hH => ?_)
    refine lv_i2l hx hb dL_mean_7 rfl ?_
    refine bk_last C hH ho9 bk_in01 dL_mean_8 (fun V9 H locs e9 hH => ?_)
    refine lv_goto (tgt := 15) hx hb dL_mean_9 (by decide) ?_
    refine lv_iconst (v := 0) hx hb dL_mean_15 (by decide) ?_
    exact bk_qr ⟨rfl, rfl, e9⟩ (bk_iret C hH dL_mean_16)
def rm_L_tacks : Room := bk_rm 10 1 6 245
set_option maxRecDepth 100000 in
set_option maxHeartbeats 4000000 in
theorem h_L_tacks {l : Launch} {G : bk_G} {N : Nat} {Y : bk_Lay} {V : bk_Val} (hst : l.stackTraces = false) {a0 : Nat} {x1 : Int32} {a2 : Nat} {out : Nat ⊕ (Int32)} (hq : q_X11_tacks N Y V a0 x1 = some out) (hs : bk_sh Y a0 = (1, 10)) (he : ∀ e, out = .inl e → e = 1) (ho : ∀ o, out = .inr o → bk_sh ((fun o : Int32 => (o.toInt64, Y, V)) o).2.1 a2 = (3, 1)) : vx_Met l yL_tacks (bk_wh yL_tacks cL_tacks 4 (some FieldType.int) [(0, 9, 12, 18)]) rm_L_tacks (bk_Pc G [.ref a0, .int x1, .ref a2] Y V) (bk_QR G (bk_hr Y V a2 (fun _ => 1) (bk_on (fun o : Int32 => (o.toInt64, Y, V)) out))) bk_nx 1 6 (bk_A G) := by
  refine bk_meth (by decide) (Nat.le_of_ble_eq_true rfl) (fun p e s m args below meth c ls C hT hH hl => ?_)
  have hx := C.1
  have hb := C.2.1
  refine lv_aload_n hx hb dL_tacks_0 rfl (lv_at hl 2 rfl) ?_
  refine lv_iconst (v := 0) hx hb dL_tacks_1 (by decide) ?_
  refine lv_aload_n hx hb dL_tacks_2 rfl (lv_at hl 0 rfl) ?_
  refine lv_iload_n hx hb dL_tacks_3 rfl (lv_at hl 1 rfl) ?_
  cases out with
  | inl e9 =>
    obtain rfl := he e9 rfl
    refine bk_callVk (rest := [.int 0, .ref a2]) (As := [.int x1]) (e9 := 1) C hH hl.1 (c_X11_tacks hst hq) mc_X11_tacks mv_X11_tacks lw_RL_83 hs rfl rfl ⟨rfl, rfl⟩ ⟨by decide, by decide⟩ rfl (Nat.le_of_ble_eq_true rfl) dL_tacks_4 ⟨by decide, by decide⟩ [] ⟨0, 9, 12, 18⟩ [] hT (fun z hz => nomatch hz) (by decide) (by decide) lc_RL_18 (by decide +kernel) (fun q9 z9 H locs hz9 hH => ?_)
    refine lv_astore_n (lv' := [(3, .ref q9), (0, .ref a0), (1, .int x1), (2, .ref a2)]) hx hb dL_tacks_12 rfl hl (by decide) rfl (fun ls hl => ?_)
    refine lv_iconst (v := 1) hx hb dL_tacks_13 (by decide) ?_
    exact bk_qr ⟨by decide, rfl, z9, hz9, rfl⟩ (bk_iret C hH dL_tacks_14)
  | inr o9 =>
    have ho9 := ho o9 rfl
    refine bk_callVr (f := fun (o : Int32) => bk_Q G (some (.int o)) Y V) (o1 := o9) (rest := [.int 0, .ref a2]) (As := [.int x1]) (ro := some (.int o9)) (Y1 := Y) (V1 := V) rfl C hH hl.1 (c_X11_tacks hst hq) mc_X11_tacks mv_X11_tacks lw_RL_83 hs rfl rfl ⟨rfl, rfl⟩ ⟨by decide, by decide⟩ rfl (Nat.le_of_ble_eq_true rfl) dL_tacks_4 ⟨by decide, by decide⟩ (fun H locs hH => ?_)
    refine lv_i2l hx hb dL_tacks_7 rfl ?_
    refine bk_last C hH ho9 bk_in01 dL_tacks_8 (fun V9 H locs e9 hH => ?_)
    refine lv_goto (tgt := 15) hx hb dL_tacks_9 (by decide) ?_
    refine lv_iconst (v := 0) hx hb dL_tacks_15 (by decide) ?_
    exact bk_qr ⟨rfl, rfl, e9⟩ (bk_iret C hH dL_tacks_16)
def rm_L_cell : Room := bk_rm 10 1 6 241
set_option maxRecDepth 100000 in
set_option maxHeartbeats 4000000 in
theorem h_L_cell {l : Launch} {G : bk_G} {N : Nat} {Y : bk_Lay} {V : bk_Val} (hst : l.stackTraces = false) {a0 : Nat} {x1 : Int32} {a2 : Nat} {out : Nat ⊕ (Int32)} (hq : q_X11_cell N Y V a0 x1 = some out) (hs : bk_sh Y a0 = (1, 10)) (he : ∀ e, out = .inl e → e = 1) (ho : ∀ o, out = .inr o → bk_sh ((fun o : Int32 => (o.toInt64, Y, V)) o).2.1 a2 = (3, 1)) : vx_Met l yL_cell (bk_wh yL_cell cL_cell 4 (some FieldType.int) [(0, 9, 12, 18)]) rm_L_cell (bk_Pc G [.ref a0, .int x1, .ref a2] Y V) (bk_QR G (bk_hr Y V a2 (fun _ => 1) (bk_on (fun o : Int32 => (o.toInt64, Y, V)) out))) bk_nx 1 6 (bk_A G) := by
  refine bk_meth (by decide) (Nat.le_of_ble_eq_true rfl) (fun p e s m args below meth c ls C hT hH hl => ?_)
  have hx := C.1
  have hb := C.2.1
  refine lv_aload_n hx hb dL_cell_0 rfl (lv_at hl 2 rfl) ?_
  refine lv_iconst (v := 0) hx hb dL_cell_1 (by decide) ?_
  refine lv_aload_n hx hb dL_cell_2 rfl (lv_at hl 0 rfl) ?_
  refine lv_iload_n hx hb dL_cell_3 rfl (lv_at hl 1 rfl) ?_
  cases out with
  | inl e9 =>
    obtain rfl := he e9 rfl
    refine bk_callVk (rest := [.int 0, .ref a2]) (As := [.int x1]) (e9 := 1) C hH hl.1 (c_X11_cell hst hq) mc_X11_cell mv_X11_cell lw_RL_86 hs rfl rfl ⟨rfl, rfl⟩ ⟨by decide, by decide⟩ rfl (Nat.le_of_ble_eq_true rfl) dL_cell_4 ⟨by decide, by decide⟩ [] ⟨0, 9, 12, 18⟩ [] hT (fun z hz => nomatch hz) (by decide) (by decide) lc_RL_18 (by decide +kernel) (fun q9 z9 H locs hz9 hH => ?_)
    refine lv_astore_n (lv' := [(3, .ref q9), (0, .ref a0), (1, .int x1), (2, .ref a2)]) hx hb dL_cell_12 rfl hl (by decide) rfl (fun ls hl => ?_)
    refine lv_iconst (v := 1) hx hb dL_cell_13 (by decide) ?_
    exact bk_qr ⟨by decide, rfl, z9, hz9, rfl⟩ (bk_iret C hH dL_cell_14)
  | inr o9 =>
    have ho9 := ho o9 rfl
    refine bk_callVr (f := fun (o : Int32) => bk_Q G (some (.int o)) Y V) (o1 := o9) (rest := [.int 0, .ref a2]) (As := [.int x1]) (ro := some (.int o9)) (Y1 := Y) (V1 := V) rfl C hH hl.1 (c_X11_cell hst hq) mc_X11_cell mv_X11_cell lw_RL_86 hs rfl rfl ⟨rfl, rfl⟩ ⟨by decide, by decide⟩ rfl (Nat.le_of_ble_eq_true rfl) dL_cell_4 ⟨by decide, by decide⟩ (fun H locs hH => ?_)
    refine lv_i2l hx hb dL_cell_7 rfl ?_
    refine bk_last C hH ho9 bk_in01 dL_cell_8 (fun V9 H locs e9 hH => ?_)
    refine lv_goto (tgt := 15) hx hb dL_cell_9 (by decide) ?_
    refine lv_iconst (v := 0) hx hb dL_cell_15 (by decide) ?_
    exact bk_qr ⟨rfl, rfl, e9⟩ (bk_iret C hH dL_cell_16)
def rm_L_sweep : Room := bk_rm 10 2 12 244
set_option maxRecDepth 100000 in
set_option maxHeartbeats 4000000 in
theorem h_L_sweep {l : Launch} {G : bk_G} {N : Nat} {Y : bk_Lay} {V : bk_Val} (hst : l.stackTraces = false) {a0 : Nat} {x1 : Int32} {x2 : Int32} {x3 : Int32} {x4 : Int32} {a5 : Nat} {out : Nat ⊕ (Int32 × bk_Lay × bk_Val)} (hq : q_X11_sweep N Y V a0 x1 x2 x3 x4 = some out) (hs : bk_sh Y a0 = (1, 10)) (he : ∀ e, out = .inl e → e = 1 ∨ e = 2) (ho : ∀ o, out = .inr o → bk_sh ((fun o : Int32 × bk_Lay × bk_Val => (o.1.toInt64, o.2.1, o.2.2)) o).2.1 a5 = (3, 1)) : vx_Met l yL_sweep (bk_wh yL_sweep cL_sweep 7 (some FieldType.int) [(0, 14, 17, 18), (0, 14, 21, 13)]) rm_L_sweep (bk_Pc G [.ref a0, .int x1, .int x2, .int x3, .int x4, .ref a5] Y V) (bk_QR G (bk_hr Y V a5 (fun e => if e = 1 then 1 else 2) (bk_on (fun o : Int32 × bk_Lay × bk_Val => (o.1.toInt64, o.2.1, o.2.2)) out))) bk_nx 2 12 (bk_A G) := by
  refine bk_meth (by decide) (Nat.le_of_ble_eq_true rfl) (fun p e s m args below meth c ls C hT hH hl => ?_)
  have hx := C.1
  have hb := C.2.1
  refine lv_aload hx hb dL_sweep_0 (lv_at hl 5 rfl) ?_
  refine lv_iconst (v := 0) hx hb dL_sweep_2 (by decide) ?_
  refine lv_aload_n hx hb dL_sweep_3 rfl (lv_at hl 0 rfl) ?_
  refine lv_iload_n hx hb dL_sweep_4 rfl (lv_at hl 1 rfl) ?_
  refine lv_iload_n hx hb dL_sweep_5 rfl (lv_at hl 2 rfl) ?_
  refine lv_iload_n hx hb dL_sweep_6 rfl (lv_at hl 3 rfl) ?_
  refine lv_iload hx hb dL_sweep_7 (lv_at hl 4 rfl) ?_
  cases out with
  | inl e9 =>
    rcases he e9 rfl with rfl | rfl
    · skip
      refine bk_callVk (rest := [.int 0, .ref a5]) (As := [.int x1, .int x2, .int x3, .int x4]) (e9 := 1) C hH hl.1 (c_X11_sweep hst hq) mc_X11_sweep mv_X11_sweep lw_RL_89 hs rfl rfl ⟨rfl, rfl⟩ ⟨by decide, by decide⟩ rfl (Nat.le_of_ble_eq_true rfl) dL_sweep_9 ⟨by decide, by decide⟩ [] ⟨0, 14, 17, 18⟩ [⟨0, 14, 21, 13⟩] hT (fun z hz => nomatch hz) (by decide) (by decide) lc_RL_18 (by decide +kernel) (fun q9 z9 H locs hz9 hH => ?_)
      refine lv_astore (lv' := [(6, .ref q9), (0, .ref a0), (1, .int x1), (2, .int x2), (3, .int x3), (4, .int x4), (5, .ref a5)]) hx hb dL_sweep_17 hl (by decide) rfl (fun ls hl => ?_)
      refine lv_iconst (v := 1) hx hb dL_sweep_19 (by decide) ?_
      exact bk_qr ⟨by decide, rfl, z9, hz9, rfl⟩ (bk_iret C hH dL_sweep_20)
    · skip
      refine bk_callVk (rest := [.int 0, .ref a5]) (As := [.int x1, .int x2, .int x3, .int x4]) (e9 := 2) C hH hl.1 (c_X11_sweep hst hq) mc_X11_sweep mv_X11_sweep lw_RL_89 hs rfl rfl ⟨rfl, rfl⟩ ⟨by decide, by decide⟩ rfl (Nat.le_of_ble_eq_true rfl) dL_sweep_9 ⟨by decide, by decide⟩ [⟨0, 14, 17, 18⟩] ⟨0, 14, 21, 13⟩ [] hT (fun z hz => by
          cases hz with
          | head => exact ⟨by decide, _, lc_RL_18, C.2.2.2.2.2.2.2.2.2.2.2⟩
          | tail _ h => exact nomatch h) (by decide) (by decide) lc_RL_13 (by decide +kernel) (fun q9 z9 H locs hz9 hH => ?_)
      refine lv_astore (lv' := [(6, .ref q9), (0, .ref a0), (1, .int x1), (2, .int x2), (3, .int x3), (4, .int x4), (5, .ref a5)]) hx hb dL_sweep_21 hl (by decide) rfl (fun ls hl => ?_)
      refine lv_iconst (v := 2) hx hb dL_sweep_23 (by decide) ?_
      exact bk_qr ⟨by decide, rfl, z9, hz9, rfl⟩ (bk_iret C hH dL_sweep_24)
  | inr o9 =>
    have ho9 := ho o9 rfl
    refine bk_callVr (f := fun (o : Int32 × bk_Lay × bk_Val) => bk_Q G (some (.int o.1)) o.2.1 o.2.2) (o1 := o9) (rest := [.int 0, .ref a5]) (As := [.int x1, .int x2, .int x3, .int x4]) (ro := some (.int o9.1)) (Y1 := o9.2.1) (V1 := o9.2.2) rfl C hH hl.1 (c_X11_sweep hst hq) mc_X11_sweep mv_X11_sweep lw_RL_89 hs rfl rfl ⟨rfl, rfl⟩ ⟨by decide, by decide⟩ rfl (Nat.le_of_ble_eq_true rfl) dL_sweep_9 ⟨by decide, by decide⟩ (fun H locs hH => ?_)
    refine lv_i2l hx hb dL_sweep_12 rfl ?_
    refine bk_last C hH ho9 bk_in01 dL_sweep_13 (fun V9 H locs e9 hH => ?_)
    refine lv_goto (tgt := 25) hx hb dL_sweep_14 (by decide) ?_
    refine lv_iconst (v := 0) hx hb dL_sweep_25 (by decide) ?_
    exact bk_qr ⟨rfl, rfl, e9⟩ (bk_iret C hH dL_sweep_26)
def rm_L_seeks : Room := bk_rm 10 2 12 251
set_option maxRecDepth 100000 in
set_option maxHeartbeats 4000000 in
theorem h_L_seeks {l : Launch} {G : bk_G} {N : Nat} {Y : bk_Lay} {V : bk_Val} (hst : l.stackTraces = false) {a0 : Nat} {x1 : Int32} {x2 : Int32} {x3 : Int32} {x4 : Int32} {a5 : Nat} {out : Nat ⊕ (Int32 × bk_Lay × bk_Val)} (hq : q_X11_seeks N Y V a0 x1 x2 x3 x4 = some out) (hs : bk_sh Y a0 = (1, 10)) (he : ∀ e, out = .inl e → e = 1 ∨ e = 2) (ho : ∀ o, out = .inr o → bk_sh ((fun o : Int32 × bk_Lay × bk_Val => (o.1.toInt64, o.2.1, o.2.2)) o).2.1 a5 = (3, 1)) : vx_Met l yL_seeks (bk_wh yL_seeks cL_seeks 7 (some FieldType.int) [(0, 14, 17, 18), (0, 14, 21, 13)]) rm_L_seeks (bk_Pc G [.ref a0, .int x1, .int x2, .int x3, .int x4, .ref a5] Y V) (bk_QR G (bk_hr Y V a5 (fun e => if e = 1 then 1 else 2) (bk_on (fun o : Int32 × bk_Lay × bk_Val => (o.1.toInt64, o.2.1, o.2.2)) out))) bk_nx 2 12 (bk_A G) := by
  refine bk_meth (by decide) (Nat.le_of_ble_eq_true rfl) (fun p e s m args below meth c ls C hT hH hl => ?_)
  have hx := C.1
  have hb := C.2.1
  refine lv_aload hx hb dL_seeks_0 (lv_at hl 5 rfl) ?_
  refine lv_iconst (v := 0) hx hb dL_seeks_2 (by decide) ?_
  refine lv_aload_n hx hb dL_seeks_3 rfl (lv_at hl 0 rfl) ?_
  refine lv_iload_n hx hb dL_seeks_4 rfl (lv_at hl 1 rfl) ?_
  refine lv_iload_n hx hb dL_seeks_5 rfl (lv_at hl 2 rfl) ?_
  refine lv_iload_n hx hb dL_seeks_6 rfl (lv_at hl 3 rfl) ?_
  refine lv_iload hx hb dL_seeks_7 (lv_at hl 4 rfl) ?_
  cases out with
  | inl e9 =>
    rcases he e9 rfl with rfl | rfl
    · skip
      refine bk_callVk (rest := [.int 0, .ref a5]) (As := [.int x1, .int x2, .int x3, .int x4]) (e9 := 1) C hH hl.1 (c_X11_seeks hst hq) mc_X11_seeks mv_X11_seeks lw_RL_93 hs rfl rfl ⟨rfl, rfl⟩ ⟨by decide, by decide⟩ rfl (Nat.le_of_ble_eq_true rfl) dL_seeks_9 ⟨by decide, by decide⟩ [] ⟨0, 14, 17, 18⟩ [⟨0, 14, 21, 13⟩] hT (fun z hz => nomatch hz) (by decide) (by decide) lc_RL_18 (by decide +kernel) (fun q9 z9 H locs hz9 hH => ?_)
      refine lv_astore (lv' := [(6, .ref q9), (0, .ref a0), (1, .int x1), (2, .int x2), (3, .int x3), (4, .int x4), (5, .ref a5)]) hx hb dL_seeks_17 hl (by decide) rfl (fun ls hl => ?_)
      refine lv_iconst (v := 1) hx hb dL_seeks_19 (by decide) ?_
      exact bk_qr ⟨by decide, rfl, z9, hz9, rfl⟩ (bk_iret C hH dL_seeks_20)
    · skip
      refine bk_callVk (rest := [.int 0, .ref a5]) (As := [.int x1, .int x2, .int x3, .int x4]) (e9 := 2) C hH hl.1 (c_X11_seeks hst hq) mc_X11_seeks mv_X11_seeks lw_RL_93 hs rfl rfl ⟨rfl, rfl⟩ ⟨by decide, by decide⟩ rfl (Nat.le_of_ble_eq_true rfl) dL_seeks_9 ⟨by decide, by decide⟩ [⟨0, 14, 17, 18⟩] ⟨0, 14, 21, 13⟩ [] hT (fun z hz => by
          cases hz with
          | head => exact ⟨by decide, _, lc_RL_18, C.2.2.2.2.2.2.2.2.2.2.2⟩
          | tail _ h => exact nomatch h) (by decide) (by decide) lc_RL_13 (by decide +kernel) (fun q9 z9 H locs hz9 hH => ?_)
      refine lv_astore (lv' := [(6, .ref q9), (0, .ref a0), (1, .int x1), (2, .int x2), (3, .int x3), (4, .int x4), (5, .ref a5)]) hx hb dL_seeks_21 hl (by decide) rfl (fun ls hl => ?_)
      refine lv_iconst (v := 2) hx hb dL_seeks_23 (by decide) ?_
      exact bk_qr ⟨by decide, rfl, z9, hz9, rfl⟩ (bk_iret C hH dL_seeks_24)
  | inr o9 =>
    have ho9 := ho o9 rfl
    refine bk_callVr (f := fun (o : Int32 × bk_Lay × bk_Val) => bk_Q G (some (.int o.1)) o.2.1 o.2.2) (o1 := o9) (rest := [.int 0, .ref a5]) (As := [.int x1, .int x2, .int x3, .int x4]) (ro := some (.int o9.1)) (Y1 := o9.2.1) (V1 := o9.2.2) rfl C hH hl.1 (c_X11_seeks hst hq) mc_X11_seeks mv_X11_seeks lw_RL_93 hs rfl rfl ⟨rfl, rfl⟩ ⟨by decide, by decide⟩ rfl (Nat.le_of_ble_eq_true rfl) dL_seeks_9 ⟨by decide, by decide⟩ (fun H locs hH => ?_)
    refine lv_i2l hx hb dL_seeks_12 rfl ?_
    refine bk_last C hH ho9 bk_in01 dL_seeks_13 (fun V9 H locs e9 hH => ?_)
    refine lv_goto (tgt := 25) hx hb dL_seeks_14 (by decide) ?_
    refine lv_iconst (v := 0) hx hb dL_seeks_25 (by decide) ?_
    exact bk_qr ⟨rfl, rfl, e9⟩ (bk_iret C hH dL_seeks_26)
def rm_L_enough : Room := bk_rm 10 1 6 244
set_option maxRecDepth 100000 in
set_option maxHeartbeats 4000000 in
theorem h_L_enough {l : Launch} {G : bk_G} {N : Nat} {Y : bk_Lay} {V : bk_Val} (hst : l.stackTraces = false) {a0 : Nat} {x1 : Int32} {a2 : Nat} {out : Nat ⊕ (Int32 × bk_Lay × bk_Val)} (hq : q_X11_enough N Y V a0 x1 = some out) (hs : bk_sh Y a0 = (1, 10)) (he : ∀ e, out = .inl e → e = 2) (ho : ∀ o, out = .inr o → bk_sh ((fun o : Int32 × bk_Lay × bk_Val => (o.1.toInt64, o.2.1, o.2.2)) o).2.1 a2 = (3, 1)) : vx_Met l yL_enough (bk_wh yL_enough cL_enough 4 (some FieldType.int) [(0, 9, 12, 13)]) rm_L_enough (bk_Pc G [.ref a0, .int x1, .ref a2] Y V) (bk_QR G (bk_hr Y V a2 (fun _ => 1) (bk_on (fun o : Int32 × bk_Lay × bk_Val => (o.1.toInt64, o.2.1, o.2.2)) out))) bk_nx 1 6 (bk_A G) := by
  refine bk_meth (by decide) (Nat.le_of_ble_eq_true rfl) (fun p e s m args below meth c ls C hT hH hl => ?_)
  have hx := C.1
  have hb := C.2.1
  refine lv_aload_n hx hb dL_enough_0 rfl (lv_at hl 2 rfl) ?_
  refine lv_iconst (v := 0) hx hb dL_enough_1 (by decide) ?_
  refine lv_aload_n hx hb dL_enough_2 rfl (lv_at hl 0 rfl) ?_
  refine lv_iload_n hx hb dL_enough_3 rfl (lv_at hl 1 rfl) ?_
  cases out with
  | inl e9 =>
    obtain rfl := he e9 rfl
    refine bk_callVk (rest := [.int 0, .ref a2]) (As := [.int x1]) (e9 := 2) C hH hl.1 (c_X11_enough hst hq) mc_X11_enough mv_X11_enough lw_RL_97 hs rfl rfl ⟨rfl, rfl⟩ ⟨by decide, by decide⟩ rfl (Nat.le_of_ble_eq_true rfl) dL_enough_4 ⟨by decide, by decide⟩ [] ⟨0, 9, 12, 13⟩ [] hT (fun z hz => nomatch hz) (by decide) (by decide) lc_RL_13 (by decide +kernel) (fun q9 z9 H locs hz9 hH => ?_)
    refine lv_astore_n (lv' := [(3, .ref q9), (0, .ref a0), (1, .int x1), (2, .ref a2)]) hx hb dL_enough_12 rfl hl (by decide) rfl (fun ls hl => ?_)
    refine lv_iconst (v := 1) hx hb dL_enough_13 (by decide) ?_
    exact bk_qr ⟨by decide, rfl, z9, hz9, rfl⟩ (bk_iret C hH dL_enough_14)
  | inr o9 =>
    have ho9 := ho o9 rfl
    refine bk_callVr (f := fun (o : Int32 × bk_Lay × bk_Val) => bk_Q G (some (.int o.1)) o.2.1 o.2.2) (o1 := o9) (rest := [.int 0, .ref a2]) (As := [.int x1]) (ro := some (.int o9.1)) (Y1 := o9.2.1) (V1 := o9.2.2) rfl C hH hl.1 (c_X11_enough hst hq) mc_X11_enough mv_X11_enough lw_RL_97 hs rfl rfl ⟨rfl, rfl⟩ ⟨by decide, by decide⟩ rfl (Nat.le_of_ble_eq_true rfl) dL_enough_4 ⟨by decide, by decide⟩ (fun H locs hH => ?_)
    refine lv_i2l hx hb dL_enough_7 rfl ?_
    refine bk_last C hH ho9 bk_in01 dL_enough_8 (fun V9 H locs e9 hH => ?_)
    refine lv_goto (tgt := 15) hx hb dL_enough_9 (by decide) ?_
    refine lv_iconst (v := 0) hx hb dL_enough_15 (by decide) ?_
    exact bk_qr ⟨rfl, rfl, e9⟩ (bk_iret C hH dL_enough_16)
def rm_L_ofInch : Room := bk_rm 10 1 6 241
set_option maxRecDepth 100000 in
set_option maxHeartbeats 4000000 in
theorem h_L_ofInch {l : Launch} {G : bk_G} {N : Nat} {Y : bk_Lay} {V : bk_Val} (hst : l.stackTraces = false) {a0 : Nat} {x1 : Int32} {a2 : Nat} {out : Nat ⊕ (Int32)} (hq : q_X11_ofInch N Y V a0 x1 = some out) (hs : bk_sh Y a0 = (1, 10)) (he : ∀ e, out = .inl e → e = 1) (ho : ∀ o, out = .inr o → bk_sh ((fun o : Int32 => (o.toInt64, Y, V)) o).2.1 a2 = (3, 1)) : vx_Met l yL_ofInch (bk_wh yL_ofInch cL_ofInch 4 (some FieldType.int) [(0, 9, 12, 18)]) rm_L_ofInch (bk_Pc G [.ref a0, .int x1, .ref a2] Y V) (bk_QR G (bk_hr Y V a2 (fun _ => 1) (bk_on (fun o : Int32 => (o.toInt64, Y, V)) out))) bk_nx 1 6 (bk_A G) := by
  refine bk_meth (by decide) (Nat.le_of_ble_eq_true rfl) (fun p e s m args below meth c ls C hT hH hl => ?_)
  have hx := C.1
  have hb := C.2.1
  refine lv_aload_n hx hb dL_ofInch_0 rfl (lv_at hl 2 rfl) ?_
  refine lv_iconst (v := 0) hx hb dL_ofInch_1 (by decide) ?_
  refine lv_aload_n hx hb dL_ofInch_2 rfl (lv_at hl 0 rfl) ?_
  refine lv_iload_n hx hb dL_ofInch_3 rfl (lv_at hl 1 rfl) ?_
  cases out with
  | inl e9 =>
    obtain rfl := he e9 rfl
    refine bk_callVk (rest := [.int 0, .ref a2]) (As := [.int x1]) (e9 := 1) C hH hl.1 (c_X11_ofInch hst hq) mc_X11_ofInch mv_X11_ofInch lw_RL_100 hs rfl rfl ⟨rfl, rfl⟩ ⟨by decide, by decide⟩ rfl (Nat.le_of_ble_eq_true rfl) dL_ofInch_4 ⟨by decide, by decide⟩ [] ⟨0, 9, 12, 18⟩ [] hT (fun z hz => nomatch hz) (by decide) (by decide) lc_RL_18 (by decide +kernel) (fun q9 z9 H locs hz9 hH => ?_)
    refine lv_astore_n (lv' := [(3, .ref q9), (0, .ref a0), (1, .int x1), (2, .ref a2)]) hx hb dL_ofInch_12 rfl hl (by decide) rfl (fun ls hl => ?_)
    refine lv_iconst (v := 1) hx hb dL_ofInch_13 (by decide) ?_
    exact bk_qr ⟨by decide, rfl, z9, hz9, rfl⟩ (bk_iret C hH dL_ofInch_14)
  | inr o9 =>
    have ho9 := ho o9 rfl
    refine bk_callVr (f := fun (o : Int32) => bk_Q G (some (.int o)) Y V) (o1 := o9) (rest := [.int 0, .ref a2]) (As := [.int x1]) (ro := some (.int o9)) (Y1 := Y) (V1 := V) rfl C hH hl.1 (c_X11_ofInch hst hq) mc_X11_ofInch mv_X11_ofInch lw_RL_100 hs rfl rfl ⟨rfl, rfl⟩ ⟨by decide, by decide⟩ rfl (Nat.le_of_ble_eq_true rfl) dL_ofInch_4 ⟨by decide, by decide⟩ (fun H locs hH => ?_)
    refine lv_i2l hx hb dL_ofInch_7 rfl ?_
    refine bk_last C hH ho9 bk_in01 dL_ofInch_8 (fun V9 H locs e9 hH => ?_)
    refine lv_goto (tgt := 15) hx hb dL_ofInch_9 (by decide) ?_
    refine lv_iconst (v := 0) hx hb dL_ofInch_15 (by decide) ?_
    exact bk_qr ⟨rfl, rfl, e9⟩ (bk_iret C hH dL_ofInch_16)
def rm_L_ofSide : Room := bk_rm 10 1 6 241
set_option maxRecDepth 100000 in
set_option maxHeartbeats 4000000 in
theorem h_L_ofSide {l : Launch} {G : bk_G} {N : Nat} {Y : bk_Lay} {V : bk_Val} (hst : l.stackTraces = false) {a0 : Nat} {x1 : Int32} {a2 : Nat} {out : Nat ⊕ (Int32)} (hq : q_X11_ofSide N Y V a0 x1 = some out) (hs : bk_sh Y a0 = (1, 10)) (he : ∀ e, out = .inl e → e = 1) (ho : ∀ o, out = .inr o → bk_sh ((fun o : Int32 => (o.toInt64, Y, V)) o).2.1 a2 = (3, 1)) : vx_Met l yL_ofSide (bk_wh yL_ofSide cL_ofSide 4 (some FieldType.int) [(0, 9, 12, 18)]) rm_L_ofSide (bk_Pc G [.ref a0, .int x1, .ref a2] Y V) (bk_QR G (bk_hr Y V a2 (fun _ => 1) (bk_on (fun o : Int32 => (o.toInt64, Y, V)) out))) bk_nx 1 6 (bk_A G) := by
  refine bk_meth (by decide) (Nat.le_of_ble_eq_true rfl) (fun p e s m args below meth c ls C hT hH hl => ?_)
  have hx := C.1
  have hb := C.2.1
  refine lv_aload_n hx hb dL_ofSide_0 rfl (lv_at hl 2 rfl) ?_
  refine lv_iconst (v := 0) hx hb dL_ofSide_1 (by decide) ?_
  refine lv_aload_n hx hb dL_ofSide_2 rfl (lv_at hl 0 rfl) ?_
  refine lv_iload_n hx hb dL_ofSide_3 rfl (lv_at hl 1 rfl) ?_
  cases out with
  | inl e9 =>
    obtain rfl := he e9 rfl
    refine bk_callVk (rest := [.int 0, .ref a2]) (As := [.int x1]) (e9 := 1) C hH hl.1 (c_X11_ofSide hst hq) mc_X11_ofSide mv_X11_ofSide lw_RL_103 hs rfl rfl ⟨rfl, rfl⟩ ⟨by decide, by decide⟩ rfl (Nat.le_of_ble_eq_true rfl) dL_ofSide_4 ⟨by decide, by decide⟩ [] ⟨0, 9, 12, 18⟩ [] hT (fun z hz => nomatch hz) (by decide) (by decide) lc_RL_18 (by decide +kernel) (fun q9 z9 H locs hz9 hH => ?_)
    refine lv_astore_n (lv' := [(3, .ref q9), (0, .ref a0), (1, .int x1), (2, .ref a2)]) hx hb dL_ofSide_12 rfl hl (by decide) rfl (fun ls hl => ?_)
    refine lv_iconst (v := 1) hx hb dL_ofSide_13 (by decide) ?_
    exact bk_qr ⟨by decide, rfl, z9, hz9, rfl⟩ (bk_iret C hH dL_ofSide_14)
  | inr o9 =>
    have ho9 := ho o9 rfl
    refine bk_callVr (f := fun (o : Int32) => bk_Q G (some (.int o)) Y V) (o1 := o9) (rest := [.int 0, .ref a2]) (As := [.int x1]) (ro := some (.int o9)) (Y1 := Y) (V1 := V) rfl C hH hl.1 (c_X11_ofSide hst hq) mc_X11_ofSide mv_X11_ofSide lw_RL_103 hs rfl rfl ⟨rfl, rfl⟩ ⟨by decide, by decide⟩ rfl (Nat.le_of_ble_eq_true rfl) dL_ofSide_4 ⟨by decide, by decide⟩ (fun H locs hH => ?_)
    refine lv_i2l hx hb dL_ofSide_7 rfl ?_
    refine bk_last C hH ho9 bk_in01 dL_ofSide_8 (fun V9 H locs e9 hH => ?_)
    refine lv_goto (tgt := 15) hx hb dL_ofSide_9 (by decide) ?_
    refine lv_iconst (v := 0) hx hb dL_ofSide_15 (by decide) ?_
    exact bk_qr ⟨rfl, rfl, e9⟩ (bk_iret C hH dL_ofSide_16)
def rm_L_flatIf : Room := bk_rm 10 1 6 242
set_option maxRecDepth 100000 in
set_option maxHeartbeats 4000000 in
theorem h_L_flatIf {l : Launch} {G : bk_G} {N : Nat} {Y : bk_Lay} {V : bk_Val} (hst : l.stackTraces = false) {a0 : Nat} {x1 : Int32} {x2 : Int32} {a3 : Nat} {out : Nat ⊕ (Int32 × bk_Val)} (hq : q_X11_flatIf N Y V a0 x1 x2 = some out) (hs : bk_sh Y a0 = (1, 10)) (he : ∀ e, out = .inl e → e = 2) (ho : ∀ o, out = .inr o → bk_sh ((fun o : Int32 × bk_Val => (o.1.toInt64, Y, o.2)) o).2.1 a3 = (3, 1)) : vx_Met l yL_flatIf (bk_wh yL_flatIf cL_flatIf 5 (some FieldType.int) [(0, 10, 13, 13)]) rm_L_flatIf (bk_Pc G [.ref a0, .int x1, .int x2, .ref a3] Y V) (bk_QR G (bk_hr Y V a3 (fun _ => 1) (bk_on (fun o : Int32 × bk_Val => (o.1.toInt64, Y, o.2)) out))) bk_nx 1 6 (bk_A G) := by
  refine bk_meth (by decide) (Nat.le_of_ble_eq_true rfl) (fun p e s m args below meth c ls C hT hH hl => ?_)
  have hx := C.1
  have hb := C.2.1
  refine lv_aload_n hx hb dL_flatIf_0 rfl (lv_at hl 3 rfl) ?_
  refine lv_iconst (v := 0) hx hb dL_flatIf_1 (by decide) ?_
  refine lv_aload_n hx hb dL_flatIf_2 rfl (lv_at hl 0 rfl) ?_
  refine lv_iload_n hx hb dL_flatIf_3 rfl (lv_at hl 1 rfl) ?_
  refine lv_iload_n hx hb dL_flatIf_4 rfl (lv_at hl 2 rfl) ?_
  cases out with
  | inl e9 =>
    obtain rfl := he e9 rfl
    refine bk_callVk (rest := [.int 0, .ref a3]) (As := [.int x1, .int x2]) (e9 := 2) C hH hl.1 (c_X11_flatIf hst hq) mc_X11_flatIf mv_X11_flatIf lw_RL_106 hs rfl rfl ⟨rfl, rfl⟩ ⟨by decide, by decide⟩ rfl (Nat.le_of_ble_eq_true rfl) dL_flatIf_5 ⟨by decide, by decide⟩ [] ⟨0, 10, 13, 13⟩ [] hT (fun z hz => nomatch hz) (by decide) (by decide) lc_RL_13 (by decide +kernel) (fun q9 z9 H locs hz9 hH => ?_)
    refine lv_astore (lv' := [(4, .ref q9), (0, .ref a0), (1, .int x1), (2, .int x2), (3, .ref a3)]) hx hb dL_flatIf_13 hl (by decide) rfl (fun ls hl => ?_)
    refine lv_iconst (v := 1) hx hb dL_flatIf_15 (by decide) ?_
    exact bk_qr ⟨by decide, rfl, z9, hz9, rfl⟩ (bk_iret C hH dL_flatIf_16)
  | inr o9 =>
    have ho9 := ho o9 rfl
    refine bk_callVr (f := fun (o : Int32 × bk_Val) => bk_Q G (some (.int o.1)) Y o.2) (o1 := o9) (rest := [.int 0, .ref a3]) (As := [.int x1, .int x2]) (ro := some (.int o9.1)) (Y1 := Y) (V1 := o9.2) rfl C hH hl.1 (c_X11_flatIf hst hq) mc_X11_flatIf mv_X11_flatIf lw_RL_106 hs rfl rfl ⟨rfl, rfl⟩ ⟨by decide, by decide⟩ rfl (Nat.le_of_ble_eq_true rfl) dL_flatIf_5 ⟨by decide, by decide⟩ (fun H locs hH => ?_)
    refine lv_i2l hx hb dL_flatIf_8 rfl ?_
    refine bk_last C hH ho9 bk_in01 dL_flatIf_9 (fun V9 H locs e9 hH => ?_)
    refine lv_goto (tgt := 17) hx hb dL_flatIf_10 (by decide) ?_
    refine lv_iconst (v := 0) hx hb dL_flatIf_17 (by decide) ?_
    exact bk_qr ⟨rfl, rfl, e9⟩ (bk_iret C hH dL_flatIf_18)
def rm_L_which : Room := bk_rm 10 1 6 246
set_option maxRecDepth 100000 in
set_option maxHeartbeats 4000000 in
theorem h_L_which {l : Launch} {G : bk_G} {N : Nat} {Y : bk_Lay} {V : bk_Val} (hst : l.stackTraces = false) {a0 : Nat} {x1 : Int32} {x2 : Int32} {x3 : Int32} {a4 : Nat} {out : Nat ⊕ (Int32 × bk_Val)} (hq : q_X11_which N Y V a0 x1 x2 x3 = some out) (hs : bk_sh Y a0 = (1, 10)) (he : ∀ e, out = .inl e → e = 1) (ho : ∀ o, out = .inr o → bk_sh ((fun o : Int32 × bk_Val => (o.1.toInt64, Y, o.2)) o).2.1 a4 = (3, 1)) : vx_Met l yL_which (bk_wh yL_which cL_which 6 (some FieldType.int) [(0, 12, 15, 18)]) rm_L_which (bk_Pc G [.ref a0, .int x1, .int x2, .int x3, .ref a4] Y V) (bk_QR G (bk_hr Y V a4 (fun _ => 1) (bk_on (fun o : Int32 × bk_Val => (o.1.toInt64, Y, o.2)) out))) bk_nx 1 6 (bk_A G) := by
  refine bk_meth (by decide) (Nat.le_of_ble_eq_true rfl) (fun p e s m args below meth c ls C hT hH hl => ?_)
  have hx := C.1
  have hb := C.2.1
  refine lv_aload hx hb dL_which_0 (lv_at hl 4 rfl) ?_
  refine lv_iconst (v := 0) hx hb dL_which_2 (by decide) ?_
  refine lv_aload_n hx hb dL_which_3 rfl (lv_at hl 0 rfl) ?_
  refine lv_iload_n hx hb dL_which_4 rfl (lv_at hl 1 rfl) ?_
  refine lv_iload_n hx hb dL_which_5 rfl (lv_at hl 2 rfl) ?_
  refine lv_iload_n hx hb dL_which_6 rfl (lv_at hl 3 rfl) ?_
  cases out with
  | inl e9 =>
    obtain rfl := he e9 rfl
    refine bk_callVk (rest := [.int 0, .ref a4]) (As := [.int x1, .int x2, .int x3]) (e9 := 1) C hH hl.1 (c_X11_which hst hq) mc_X11_which mv_X11_which lw_RL_110 hs rfl rfl ⟨rfl, rfl⟩ ⟨by decide, by decide⟩ rfl (Nat.le_of_ble_eq_true rfl) dL_which_7 ⟨by decide, by decide⟩ [] ⟨0, 12, 15, 18⟩ [] hT (fun z hz => nomatch hz) (by decide) (by decide) lc_RL_18 (by decide +kernel) (fun q9 z9 H locs hz9 hH => ?_)
    refine lv_astore (lv' := [(5, .ref q9), (0, .ref a0), (1, .int x1), (2, .int x2), (3, .int x3), (4, .ref a4)]) hx hb dL_which_15 hl (by decide) rfl (fun ls hl => ?_)
    refine lv_iconst (v := 1) hx hb dL_which_17 (by decide) ?_
    exact bk_qr ⟨by decide, rfl, z9, hz9, rfl⟩ (bk_iret C hH dL_which_18)
  | inr o9 =>
    have ho9 := ho o9 rfl
    refine bk_callVr (f := fun (o : Int32 × bk_Val) => bk_Q G (some (.int o.1)) Y o.2) (o1 := o9) (rest := [.int 0, .ref a4]) (As := [.int x1, .int x2, .int x3]) (ro := some (.int o9.1)) (Y1 := Y) (V1 := o9.2) rfl C hH hl.1 (c_X11_which hst hq) mc_X11_which mv_X11_which lw_RL_110 hs rfl rfl ⟨rfl, rfl⟩ ⟨by decide, by decide⟩ rfl (Nat.le_of_ble_eq_true rfl) dL_which_7 ⟨by decide, by decide⟩ (fun H locs hH => ?_)
    refine lv_i2l hx hb dL_which_10 rfl ?_
    refine bk_last C hH ho9 bk_in01 dL_which_11 (fun V9 H locs e9 hH => ?_)
    refine lv_goto (tgt := 19) hx hb dL_which_12 (by decide) ?_
    refine lv_iconst (v := 0) hx hb dL_which_19 (by decide) ?_
    exact bk_qr ⟨rfl, rfl, e9⟩ (bk_iret C hH dL_which_20)
def rm_L_rides : Room := bk_rm 10 1 6 244
set_option maxRecDepth 100000 in
set_option maxHeartbeats 4000000 in
theorem h_L_rides {l : Launch} {G : bk_G} {N : Nat} {Y : bk_Lay} {V : bk_Val} (hst : l.stackTraces = false) {a0 : Nat} {x1 : Int32} {a2 : Nat} {out : Nat ⊕ (Int32 × bk_Val)} (hq : q_X11_rides N Y V a0 x1 = some out) (hs : bk_sh Y a0 = (1, 10)) (he : ∀ e, out = .inl e → e = 2) (ho : ∀ o, out = .inr o → bk_sh ((fun o : Int32 × bk_Val => (o.1.toInt64, Y, o.2)) o).2.1 a2 = (3, 1)) : vx_Met l yL_rides (bk_wh yL_rides cL_rides 4 (some FieldType.int) [(0, 9, 12, 13)]) rm_L_rides (bk_Pc G [.ref a0, .int x1, .ref a2] Y V) (bk_QR G (bk_hr Y V a2 (fun _ => 1) (bk_on (fun o : Int32 × bk_Val => (o.1.toInt64, Y, o.2)) out))) bk_nx 1 6 (bk_A G) := by
  refine bk_meth (by decide) (Nat.le_of_ble_eq_true rfl) (fun p e s m args below meth c ls C hT hH hl => ?_)
  have hx := C.1
  have hb := C.2.1
  refine lv_aload_n hx hb dL_rides_0 rfl (lv_at hl 2 rfl) ?_
  refine lv_iconst (v := 0) hx hb dL_rides_1 (by decide) ?_
  refine lv_aload_n hx hb dL_rides_2 rfl (lv_at hl 0 rfl) ?_
  refine lv_iload_n hx hb dL_rides_3 rfl (lv_at hl 1 rfl) ?_
  cases out with
  | inl e9 =>
    obtain rfl := he e9 rfl
    refine bk_callVk (rest := [.int 0, .ref a2]) (As := [.int x1]) (e9 := 2) C hH hl.1 (c_X11_rides hst hq) mc_X11_rides mv_X11_rides lw_RL_113 hs rfl rfl ⟨rfl, rfl⟩ ⟨by decide, by decide⟩ rfl (Nat.le_of_ble_eq_true rfl) dL_rides_4 ⟨by decide, by decide⟩ [] ⟨0, 9, 12, 13⟩ [] hT (fun z hz => nomatch hz) (by decide) (by decide) lc_RL_13 (by decide +kernel) (fun q9 z9 H locs hz9 hH => ?_)
    refine lv_astore_n (lv' := [(3, .ref q9), (0, .ref a0), (1, .int x1), (2, .ref a2)]) hx hb dL_rides_12 rfl hl (by decide) rfl (fun ls hl => ?_)
    refine lv_iconst (v := 1) hx hb dL_rides_13 (by decide) ?_
    exact bk_qr ⟨by decide, rfl, z9, hz9, rfl⟩ (bk_iret C hH dL_rides_14)
  | inr o9 =>
    have ho9 := ho o9 rfl
    refine bk_callVr (f := fun (o : Int32 × bk_Val) => bk_Q G (some (.int o.1)) Y o.2) (o1 := o9) (rest := [.int 0, .ref a2]) (As := [.int x1]) (ro := some (.int o9.1)) (Y1 := Y) (V1 := o9.2) rfl C hH hl.1 (c_X11_rides hst hq) mc_X11_rides mv_X11_rides lw_RL_113 hs rfl rfl ⟨rfl, rfl⟩ ⟨by decide, by decide⟩ rfl (Nat.le_of_ble_eq_true rfl) dL_rides_4 ⟨by decide, by decide⟩ (fun H locs hH => ?_)
    refine lv_i2l hx hb dL_rides_7 rfl ?_
    refine bk_last C hH ho9 bk_in01 dL_rides_8 (fun V9 H locs e9 hH => ?_)
    refine lv_goto (tgt := 15) hx hb dL_rides_9 (by decide) ?_
    refine lv_iconst (v := 0) hx hb dL_rides_15 (by decide) ?_
    exact bk_qr ⟨rfl, rfl, e9⟩ (bk_iret C hH dL_rides_16)
