section
variable {p : Program} {l : Launch} {e : Env} {s : State} {m : MethodId} {args : Array Value} {below : List Frame} {meth : Method} {c : Code} {G : bk_G} {Y : bk_Lay} {V : bk_Val}
theorem bk_bret {R : Room} {H : Heap} {locs : List Loc} {cells slots pc nL : Nat} {ls : Array Slot} {cc : ByteArray} {own : String} (C : bk_C G p s m args meth c cc own nL (some .byte)) (hH : bk_H G Y V s.heap H locs) {v : Int32} (hn : narrow .byte (.int v) = .int v) (hdg : decode cc pc = .ok (.ireturn, 1)) :
    W p l e R s m args below meth c H locs cells slots (MQ below (bk_Q G (some (.int v)) Y V) args s cells slots (bk_A G)) (F0 m pc ls [.int v]) := by
  obtain ⟨hx, hb, -, -, -, hr, hlocks, hE⟩ := C
  exact W.zret hx hb hr hn (fun t ht hW => ⟨rfl, bk_fin hE hH ht hW⟩) hH.2.1.2.2 hdg
theorem bk_cret {R : Room} {H : Heap} {locs : List Loc} {cells slots pc nL : Nat} {ls : Array Slot} {cc : ByteArray} {own : String} (C : bk_C G p s m args meth c cc own nL (some .char)) (hH : bk_H G Y V s.heap H locs) {v : Int32} (hn : narrow .char (.int v) = .int v) (hdg : decode cc pc = .ok (.ireturn, 1)) :
    W p l e R s m args below meth c H locs cells slots (MQ below (bk_Q G (some (.int v)) Y V) args s cells slots (bk_A G)) (F0 m pc ls [.int v]) := by
  obtain ⟨hx, hb, -, -, -, hr, hlocks, hE⟩ := C
  exact W.zret hx hb hr hn (fun t ht hW => ⟨rfl, bk_fin hE hH ht hW⟩) hH.2.1.2.2 hdg
end
set_option maxRecDepth 100000 in
theorem c_coder {l : Launch} {G : bk_G} {Y : bk_Lay} {V : bk_Val} {i : Nat} {q : String × Nat × String} (hi : bk_strs[i]? = some q) : Met l yJ0_coder_7d493 (bk_ws yJ0_coder_7d493 cJ0_coder_7d493 1 (some .byte)) (bk_rm 0 0 0 0) (bk_Pc G [.ref (G.2.2.2.1 i)] Y V) (bk_Q G (some (.int 0)) Y V) 0 0 (bk_A G) := by
  refine bk_met (by decide) (Nat.le_of_ble_eq_true rfl) (fun p e s m args below meth c ls C hnm hH hl => ?_)
  have hx := C.1
  have hb := C.2.1
  have hE := C.2.2.2.2.2.2.2
  have hl : lv_has ls 1 [(0, .ref (G.2.2.2.1 i))] := hl
  refine va_gets hx hb hE.2.2.2.1.2.2.2.2.1 hH.2.1 C.2.2.2.1 (C.2.2.2.2.1 _ sf_compact) (fun _ h => h) dJ0_coder_7d493_0 ?_
  refine lv_if_eq (tgt := 13) hx hb dJ0_coder_7d493_3 (by decide) (fun h => absurd h (by decide)) (fun _ => ?_)
  refine lv_aload_n hx hb dJ0_coder_7d493_6 rfl (lv_at hl 0 rfl) ?_
  refine vk_getf hx hb (hE.2.2.1 i q hi).2.2.1 hH.2.1 C.2.2.2.1 (C.2.2.2.2.1 _ sf_coder) (fun _ h => h) dJ0_coder_7d493_7 ?_
  refine lv_goto (tgt := 14) hx hb dJ0_coder_7d493_10 (by decide) ?_
  exact bk_bret C hH (by decide) dJ0_coder_7d493_14
set_option maxRecDepth 100000 in
theorem c_latin {l : Launch} {G : bk_G} {Y : bk_Lay} {V : bk_Val} {i : Nat} {q : String × Nat × String} (hi : bk_strs[i]? = some q) : Met l yJ0_isLatin1_aae02 (bk_ws yJ0_isLatin1_aae02 cJ0_isLatin1_aae02 1 (some .boolean)) (bk_rm 0 0 0 0) (bk_Pc G [.ref (G.2.2.2.1 i)] Y V) (bk_Q G (some (.int 1)) Y V) 0 0 (bk_A G) := by
  refine bk_met (by decide) (Nat.le_of_ble_eq_true rfl) (fun p e s m args below meth c ls C hnm hH hl => ?_)
  have hx := C.1
  have hb := C.2.1
  have hE := C.2.2.2.2.2.2.2
  have hl : lv_has ls 1 [(0, .ref (G.2.2.2.1 i))] := hl
  refine va_gets hx hb hE.2.2.2.1.2.2.2.2.1 hH.2.1 C.2.2.2.1 (C.2.2.2.2.1 _ sf_compact) (fun _ h => h) dJ0_isLatin1_aae02_0 ?_
  refine lv_if_eq (tgt := 17) hx hb dJ0_isLatin1_aae02_3 (by decide) (fun h => absurd h (by decide)) (fun _ => ?_)
  refine lv_aload_n hx hb dJ0_isLatin1_aae02_6 rfl (lv_at hl 0 rfl) ?_
  refine vk_getf hx hb (hE.2.2.1 i q hi).2.2.1 hH.2.1 C.2.2.2.1 (C.2.2.2.2.1 _ sf_coder) (fun _ h => h) dJ0_isLatin1_aae02_7 ?_
  refine lv_if_ne (tgt := 17) hx hb dJ0_isLatin1_aae02_10 (by decide) (fun h => absurd rfl h) (fun _ => ?_)
  refine lv_iconst (v := 1) hx hb dJ0_isLatin1_aae02_13 (by decide) ?_
  refine lv_goto (tgt := 18) hx hb dJ0_isLatin1_aae02_14 (by decide) ?_
  exact bk_zret C hH (Or.inr rfl) dJ0_isLatin1_aae02_18
set_option maxRecDepth 100000 in
theorem c_slen {l : Launch} {G : bk_G} {Y : bk_Lay} {V : bk_Val} {i : Nat} {q : String × Nat × String} (hi : bk_strs[i]? = some q) : Met l yJ0_length_8abf5 (bk_ws yJ0_length_8abf5 cJ0_length_8abf5 1 (some .int)) (bk_rm 1 0 0 20) (bk_Pc G [.ref (G.2.2.2.1 i)] Y V) (bk_Q G (some (.int (nI (bk_len.getD i 0)))) Y V) 0 0 (bk_A G) := by
  refine bk_met (by decide) (Nat.le_of_ble_eq_true rfl) (fun p e s m args below meth c ls C hnm hH hl => ?_)
  have hx := C.1
  have hb := C.2.1
  have hE := C.2.2.2.2.2.2.2
  have hl : lv_has ls 1 [(0, .ref (G.2.2.2.1 i))] := hl
  refine lv_aload_n hx hb dJ0_length_8abf5_0 rfl (lv_at hl 0 rfl) ?_
  refine vk_getf hx hb (hE.2.2.1 i q hi).2.2.2.1 hH.2.1 C.2.2.2.1 (C.2.2.2.2.1 _ sf_value) (fun _ h => h) dJ0_length_8abf5_1 ?_
  refine va_tlen hx hb (hE.2.2.1 i q hi).2.2.2.2 hH.2.1 (v := nI (bk_len.getD i 0)) rfl dJ0_length_8abf5_4 ?_
  refine lv_aload_n hx hb dJ0_length_8abf5_5 rfl (lv_at hl 0 rfl) ?_
  refine bk_callV0 (rest := [.int (nI (bk_len.getD i 0))]) (As := []) (ro := some (.int 0)) (Y1 := Y) (V1 := V) C hH hl.1 (c_coder hi) mc_J0_coder_7d493 mv_J0_coder_7d493 sl_coder (bk_srec C hH hi) rfl ⟨rfl, rfl⟩ ⟨by decide, by decide⟩ rfl (Nat.le_of_ble_eq_true rfl) dJ0_length_8abf5_6 ⟨by decide, by decide⟩ (fun H locs hH => ?_)
  refine lv_ishr hx hb dJ0_length_8abf5_9 ?_
  rw [show nI (bk_len.getD i 0) >>> ((0 : Int32) &&& 31) = nI (bk_len.getD i 0) from sb_shr0 _]
  exact bk_iret C hH dJ0_length_8abf5_10
set_option maxRecDepth 100000 in
theorem c_chk3 {l : Launch} {G : bk_G} {Y : bk_Lay} {V : bk_Val} {x n : Int32} {fv : Value} (hfv : fv = .null ∨ ∃ t, fv = .ref t) (h0 : ¬ x < 0) (h1 : x < n) : Met l yJ3_checkIndex_8e157 (bk_ws yJ3_checkIndex_8e157 cJ3_checkIndex_8e157 3 (some .int)) (bk_rm 0 0 0 0) (bk_Pc G [.int x, .int n, fv] Y V) (bk_Q G (some (.int x)) Y V) 0 0 (bk_A G) := by
  refine bk_met (by decide) (by rcases hfv with rfl | ⟨t, rfl⟩ <;> exact Nat.le_of_ble_eq_true rfl) (fun p e s m args below meth c ls C hnm hH hl => ?_)
  have hx := C.1
  have hb := C.2.1
  have hl : lv_has ls 3 [(0, .int x), (1, .int n), (2, fv)] := hl
  refine lv_iload_n hx hb dJ3_checkIndex_8e157_0 rfl (lv_at hl 0 rfl) ?_
  refine lv_if_lt (tgt := 9) hx hb dJ3_checkIndex_8e157_1 (by decide) (fun h => absurd h h0) (fun _ => ?_)
  refine lv_iload_n hx hb dJ3_checkIndex_8e157_4 rfl (lv_at hl 0 rfl) ?_
  refine lv_iload_n hx hb dJ3_checkIndex_8e157_5 rfl (lv_at hl 1 rfl) ?_
  refine lv_icmp_lt (tgt := 16) hx hb dJ3_checkIndex_8e157_6 (by decide) (fun _ => ?_) (fun h => absurd h1 h)
  refine lv_iload_n hx hb dJ3_checkIndex_8e157_16 rfl (lv_at hl 0 rfl) ?_
  exact bk_iret C hH dJ3_checkIndex_8e157_17
set_option maxRecDepth 100000 in
theorem c_chk0 {l : Launch} {G : bk_G} {Y : bk_Lay} {V : bk_Val} {x n : Int32} (h0 : ¬ x < 0) (h1 : x < n) : Met l yJ0_checkIndex_df160 (bk_ws yJ0_checkIndex_df160 cJ0_checkIndex_df160 2 none) (bk_rm 1 0 0 22) (bk_Pc G [.int x, .int n] Y V) (bk_Q G none Y V) 0 0 (bk_A G) := by
  refine bk_met (by decide) (Nat.le_of_ble_eq_true rfl) (fun p e s m args below meth c ls C hnm hH hl => ?_)
  have hx := C.1
  have hb := C.2.1
  have hE := C.2.2.2.2.2.2.2
  have hl : lv_has ls 2 [(0, .int x), (1, .int n)] := hl
  refine lv_iload_n hx hb dJ0_checkIndex_df160_0 rfl (lv_at hl 0 rfl) ?_
  refine lv_iload_n hx hb dJ0_checkIndex_df160_1 rfl (lv_at hl 1 rfl) ?_
  rcases hE.2.2.2.1.2.2.2.2.2.1 with hz | ⟨t, hz⟩
  · refine va_gets hx hb hz hH.2.1 C.2.2.2.1 (C.2.2.2.2.1 _ sf_sioobe) (fun _ h => h) dJ0_checkIndex_df160_2 ?_
    refine bk_callS (rest := []) (As := [.int x, .int n, .null]) (ro := some (.int x)) (Y1 := Y) (V1 := V) C hH hl.1 (c_chk3 (Or.inl rfl) h0 h1) mc_J3_checkIndex_8e157 st_J3_checkIndex_8e157 (Or.inl sl_pre) rfl ⟨rfl, rfl⟩ ⟨by decide, by decide⟩ rfl (Nat.le_of_ble_eq_true rfl) dJ0_checkIndex_df160_5 ⟨by decide, by decide⟩ (fun H locs hH => ?_)
    refine lv_pop hx hb dJ0_checkIndex_df160_8 rfl ?_
    exact bk_vret C hH dJ0_checkIndex_df160_9
  · refine va_gets hx hb hz hH.2.1 C.2.2.2.1 (C.2.2.2.2.1 _ sf_sioobe) (fun _ h => h) dJ0_checkIndex_df160_2 ?_
    refine bk_callS (rest := []) (As := [.int x, .int n, .ref t]) (ro := some (.int x)) (Y1 := Y) (V1 := V) C hH hl.1 (c_chk3 (Or.inr ⟨t, rfl⟩) h0 h1) mc_J3_checkIndex_8e157 st_J3_checkIndex_8e157 (Or.inl sl_pre) rfl ⟨rfl, rfl⟩ ⟨by decide, by decide⟩ rfl (Nat.le_of_ble_eq_true rfl) dJ0_checkIndex_df160_5 ⟨by decide, by decide⟩ (fun H locs hH => ?_)
    refine lv_pop hx hb dJ0_checkIndex_df160_8 rfl ?_
    exact bk_vret C hH dJ0_checkIndex_df160_9
theorem bk_len_small {i : Nat} : bk_len.getD i 0 < 2 ^ 31 := by
  by_cases h : i < 39
  · exact co_dec (N := 39) (P := fun i => bk_len.getD i 0 < 2 ^ 31) (by decide) h
  · have h9 : bk_len[i]? = none := List.getElem?_eq_none (by show 39 ≤ i; omega)
    rw [List.getD_eq_getElem?_getD, h9]
    decide
theorem bk_in_ltI {x : Int32} {n : Nat} (hn : n < 2 ^ 31) (h : bk_in x n) : x < nI n := by
  obtain ⟨j, hj, rfl⟩ := vp_in_of (bk_in_vp h) hn
  exact nI_lt hj hn
set_option maxRecDepth 100000 in
theorem c_chr1 {l : Launch} {G : bk_G} {Y : bk_Lay} {V : bk_Val} {i : Nat} {q : String × Nat × String} (hi : bk_strs[i]? = some q) {x : Int32} (hin : bk_in x (bk_len.getD i 0)) : Met l yJ1_charAt_3b067 (bk_ws yJ1_charAt_3b067 cJ1_charAt_3b067 2 (some .char)) (bk_rm 2 0 0 43) (bk_Pc G [.ref (G.2.2.2.2.1 i), .int x] Y V) (bk_Q G (some (.int (bk_chr i x))) Y V) 0 0 (bk_A G) := by
  refine bk_met (by decide) (Nat.le_of_ble_eq_true rfl) (fun p e s m args below meth c ls C hnm hH hl => ?_)
  have hx := C.1
  have hb := C.2.1
  have hE := C.2.2.2.2.2.2.2
  have hl : lv_has ls 2 [(0, .ref (G.2.2.2.2.1 i)), (1, .int x)] := hl
  refine lv_iload_n hx hb dJ1_charAt_3b067_0 rfl (lv_at hl 1 rfl) ?_
  refine lv_aload_n hx hb dJ1_charAt_3b067_1 rfl (lv_at hl 0 rfl) ?_
  refine va_tlen hx hb (hE.2.2.1 i q hi).2.2.2.2 hH.2.1 (v := nI (bk_len.getD i 0)) rfl dJ1_charAt_3b067_2 ?_
  refine bk_callS (rest := []) (As := [.int x, .int (nI (bk_len.getD i 0))]) (ro := none) (Y1 := Y) (V1 := V) C hH hl.1 (c_chk0 hin.1 (bk_in_ltI bk_len_small hin)) mc_J0_checkIndex_df160 st_J0_checkIndex_df160 (Or.inl sl_check) rfl ⟨rfl, rfl⟩ ⟨by decide, by decide⟩ rfl (Nat.le_of_ble_eq_true rfl) dJ1_charAt_3b067_3 ⟨by decide, by decide⟩ (fun H locs hH => ?_)
  refine lv_aload_n hx hb dJ1_charAt_3b067_6 rfl (lv_at hl 0 rfl) ?_
  refine lv_iload_n hx hb dJ1_charAt_3b067_7 rfl (lv_at hl 1 rfl) ?_
  refine va_tb hx hb (hE.2.2.1 i q hi).2.2.2.2 hH.2.1 (bk_in_vp hin) rfl dJ1_charAt_3b067_8 ?_
  refine lv_sipush (v := 255) hx hb dJ1_charAt_3b067_9 (by decide) ?_
  refine lv_iand hx hb dJ1_charAt_3b067_12 ?_
  refine bk_xi2c hx hb dJ1_charAt_3b067_13 ?_
  exact bk_cret (v := bk_chr i x) C hH (pk_nc _) dJ1_charAt_3b067_14
set_option maxRecDepth 100000 in
theorem c_schr {l : Launch} {G : bk_G} {Y : bk_Lay} {V : bk_Val} {i : Nat} {q : String × Nat × String} (hi : bk_strs[i]? = some q) {x : Int32} (hin : bk_in x (bk_len.getD i 0)) : Met l yJ0_charAt_5068e (bk_ws yJ0_charAt_5068e cJ0_charAt_5068e 2 (some .char)) (bk_rm 3 0 0 64) (bk_Pc G [.ref (G.2.2.2.1 i), .int x] Y V) (bk_Q G (some (.int (bk_chr i x))) Y V) 0 0 (bk_A G) := by
  refine bk_met (by decide) (Nat.le_of_ble_eq_true rfl) (fun p e s m args below meth c ls C hnm hH hl => ?_)
  have hx := C.1
  have hb := C.2.1
  have hE := C.2.2.2.2.2.2.2
  have hl : lv_has ls 2 [(0, .ref (G.2.2.2.1 i)), (1, .int x)] := hl
  refine lv_aload_n hx hb dJ0_charAt_5068e_0 rfl (lv_at hl 0 rfl) ?_
  refine bk_callV0 (rest := []) (As := []) (ro := some (.int 1)) (Y1 := Y) (V1 := V) C hH hl.1 (c_latin hi) mc_J0_isLatin1_aae02 mv_J0_isLatin1_aae02 sl_latin (bk_srec C hH hi) rfl ⟨rfl, rfl⟩ ⟨by decide, by decide⟩ rfl (Nat.le_of_ble_eq_true rfl) dJ0_charAt_5068e_1 ⟨by decide, by decide⟩ (fun H locs hH => ?_)
  refine lv_if_eq (tgt := 16) hx hb dJ0_charAt_5068e_4 (by decide) (fun h => absurd h (by decide)) (fun _ => ?_)
  refine lv_aload_n hx hb dJ0_charAt_5068e_7 rfl (lv_at hl 0 rfl) ?_
  refine vk_getf hx hb (hE.2.2.1 i q hi).2.2.2.1 hH.2.1 C.2.2.2.1 (C.2.2.2.2.1 _ sf_value) (fun _ h => h) dJ0_charAt_5068e_8 ?_
  refine lv_iload_n hx hb dJ0_charAt_5068e_11 rfl (lv_at hl 1 rfl) ?_
  refine bk_callS (rest := []) (As := [.ref (G.2.2.2.2.1 i), .int x]) (ro := some (.int (bk_chr i x))) (Y1 := Y) (V1 := V) C hH hl.1 (c_chr1 hi hin) mc_J1_charAt_3b067 st_J1_charAt_3b067 (Or.inl sl_l1) rfl ⟨rfl, rfl⟩ ⟨by decide, by decide⟩ rfl (Nat.le_of_ble_eq_true rfl) dJ0_charAt_5068e_12 ⟨by decide, by decide⟩ (fun H locs hH => ?_)
  exact bk_cret (v := bk_chr i x) C hH (pk_nc _) dJ0_charAt_5068e_15
section
variable {p : Program} {l : Launch} {e : Env} {R : Room} {s : State} {m : MethodId} {args : Array Value} {below : List Frame} {meth : Method} {c : Code} {H : Heap} {locs : List Loc} {cells slots : Nat} {Q : State → Prop}
variable {cc : ByteArray} {pc : Nat} {ls : Array Slot} {rest : List Value} {G : bk_G} {Y : bk_Lay} {V : bk_Val} {nL : Nat} {ret : Option FieldType} {st0 : List Value}
theorem bk_slen {own : String} {index : Nat} (C : bk_C G p s m args meth c cc own nL ret) (hH : bk_H G Y V s.heap H locs) (hls : ls.size = nL) {i : Nat} (hi : i < 39) (hl : Cond.methodLink own index yJ0_length_8abf5 ∈ bk_GW) (hR : 2 ≤ R.frames ∧ 40 ≤ R.locals) (hW : (rest.map fun v => v.category).sum ≤ 8) (hdg : decode cc pc = .ok (.invokevirtual index, 3)) (hf : cells ≤ R.cells ∧ slots ≤ R.slots)
    (kk : ∀ (H1 : Heap) (locs1 : List Loc), bk_H G Y V s.heap H1 locs1 → W p l e R s m args below meth c H1 locs1 cells slots Q (F0 m (pc + 3) ls (.int (nI (bk_len.getD i 0)) :: rest))) : W p l e R s m args below meth c H locs cells slots Q (F0 m pc ls (.ref (G.2.2.2.1 i) :: rest)) := by
  have hq : ∃ q, bk_strs[i]? = some q := ⟨_, List.getElem?_eq_getElem (show i < bk_strs.length from hi)⟩
  obtain ⟨q, hq⟩ := hq
  exact bk_callV0 (rest := rest) (As := []) (ro := some (.int (nI (bk_len.getD i 0)))) (Y1 := Y) (V1 := V) C hH hls (c_slen hq) mc_J0_length_8abf5 mv_J0_length_8abf5 hl (bk_srec C hH hq) rfl ⟨rfl, rfl⟩ ⟨hR.1, by show 8 + (1 + 11) + 20 ≤ R.locals; exact hR.2⟩ rfl hW hdg hf kk
theorem bk_schr {own : String} {index : Nat} (C : bk_C G p s m args meth c cc own nL ret) (hH : bk_H G Y V s.heap H locs) (hls : ls.size = nL) {i : Nat} (hi : i < 39) {x : Int32} (hin : bk_in x (bk_len.getD i 0)) (hl : Cond.methodLink own index yJ0_charAt_5068e ∈ bk_GW) (hR : 4 ≤ R.frames ∧ 85 ≤ R.locals) (hW : (rest.map fun v => v.category).sum ≤ 8) (hdg : decode cc pc = .ok (.invokevirtual index, 3)) (hf : cells ≤ R.cells ∧ slots ≤ R.slots)
    (kk : ∀ (H1 : Heap) (locs1 : List Loc), bk_H G Y V s.heap H1 locs1 → W p l e R s m args below meth c H1 locs1 cells slots Q (F0 m (pc + 3) ls (.int (bk_chr i x) :: rest))) : W p l e R s m args below meth c H locs cells slots Q (F0 m pc ls (.int x :: .ref (G.2.2.2.1 i) :: rest)) := by
  have hq : ∃ q, bk_strs[i]? = some q := ⟨_, List.getElem?_eq_getElem (show i < bk_strs.length from hi)⟩
  obtain ⟨q, hq⟩ := hq
  exact bk_callV0 (rest := rest) (As := [.int x]) (ro := some (.int (bk_chr i x))) (Y1 := Y) (V1 := V) C hH hls (c_schr hq hin) mc_J0_charAt_5068e mv_J0_charAt_5068e hl (bk_srec C hH hq) rfl ⟨rfl, rfl⟩ ⟨hR.1, by show 8 + (2 + 11) + 64 ≤ R.locals; exact hR.2⟩ rfl hW hdg hf kk
end
