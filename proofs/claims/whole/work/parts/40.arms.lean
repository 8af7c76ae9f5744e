section
variable {p : Program} {l : Launch} {e : Env} {s : State} {m : MethodId} {args : Array Value} {below : List Frame} {meth : Method} {c : Code} {H : Heap} {locs : List Loc} {cells slots : Nat} {Q : State → Prop} {ls : Array Slot}
variable {G : bk_G} {Y : bk_Lay} {V : bk_Val} {b L j N a1 a2 a3 : Nat} {xs : Nat → Int32} {I : bk_Lay → bk_Val → Prop}
set_option maxRecDepth 100000 in
set_option maxHeartbeats 4000000 in
theorem arm_0 (C : bk_C G p s m args meth c cL_law RL 8 (some FieldType.boolean)) (hst : l.stackTraces = false) (hX : va_X b L xs s s.heap) (hbl : b < s.heap.size) (hbA : ¬ bk_A G b) (hj : 6 * j + 6 ≤ L) (hL : L ≤ 3072) (hRc : cells + 8 ≤ 601024) (hRs : slots + 400 ≤ 7293034) (hl : lv_has ls 8 [(0, .ref b), (1, .ref a1), (2, .ref a2), (3, .ref a3), (4, .int (Int32.ofNat (6 * j)))]) (hH : bk_H G Y V s.heap H locs) (hs1 : bk_sh Y a1 = (1, 10)) (hS : bk_st0 N a1 a2 a3 Y V (xs (6 * j + 1)) (xs (6 * j + 2)) (xs (6 * j + 3)) (xs (6 * j + 4)) (xs (6 * j + 5)) I) (kk : ∀ (Y : bk_Lay) (V : bk_Val) (H : Heap) (locs : List Loc) (ls : Array Slot), I Y V → bk_H G Y V s.heap H locs → lv_has ls 8 [(0, .ref b), (1, .ref a1), (2, .ref a2), (3, .ref a3), (4, .int (Int32.ofNat (6 * j)))] → W p l e room_1 s m args below meth c H locs (cells + 8) (slots + 400) Q (F0 m 2773 ls [])) : W p l e room_1 s m args below meth c H locs cells slots Q (F0 m 232 ls []) := by
  have hx := C.1
  have hb := C.2.1
  obtain ⟨r1, V1, hq1, hs2, r2, V2, hq2, hr, hI⟩ := hS
  refine lv_aload_n hx hb dL_law_232 rfl (lv_at hl 1 rfl) ?_
  refine bk_sc 1 C hH hX hbl hbA hj hL (lv_at hl 0 rfl) (lv_at hl 4 rfl) (by decide) (by decide) dL_law_233 dL_law_234 dL_law_236 dL_law_237 dL_law_238 ?_
  refine bk_sc 2 C hH hX hbl hbA hj hL (lv_at hl 0 rfl) (lv_at hl 4 rfl) (by decide) (by decide) dL_law_239 dL_law_240 dL_law_242 dL_law_243 dL_law_244 ?_
  refine bk_sc 3 C hH hX hbl hbA hj hL (lv_at hl 0 rfl) (lv_at hl 4 rfl) (by decide) (by decide) dL_law_245 dL_law_246 dL_law_248 dL_law_249 dL_law_250 ?_
  refine bk_sc 4 C hH hX hbl hbA hj hL (lv_at hl 0 rfl) (lv_at hl 4 rfl) (by decide) (by decide) dL_law_251 dL_law_252 dL_law_254 dL_law_255 dL_law_256 ?_
  refine bk_sc 5 C hH hX hbl hbA hj hL (lv_at hl 0 rfl) (lv_at hl 4 rfl) (by decide) (by decide) dL_law_257 dL_law_258 dL_law_260 dL_law_261 dL_law_262 ?_
  refine bk_callV (b := a1) (rest := []) (As := [.int ((xs (6 * j + 1))), .int ((xs (6 * j + 2))), .int ((xs (6 * j + 3))), .int ((xs (6 * j + 4))), .int ((xs (6 * j + 5)))]) (ro := some (.int r1)) (Y1 := Y) (V1 := V1) C hH hl.1 (c_X11_feed hq1) mc_X11_feed mv_X11_feed lk_RL_120 hs1 rfl rfl ⟨rfl, rfl⟩ ⟨by decide, by decide⟩ rfl (Nat.le_of_ble_eq_true rfl) dL_law_263 ⟨by have := hRc; show _ ≤ 601024; omega, by have := hRs; show _ ≤ 7293034; omega⟩ (fun H locs hH => ?_)
  refine lv_aload_n hx hb dL_law_266 rfl (lv_at hl 2 rfl) ?_
  refine bk_sc 1 C hH hX hbl hbA hj hL (lv_at hl 0 rfl) (lv_at hl 4 rfl) (by decide) (by decide) dL_law_267 dL_law_268 dL_law_270 dL_law_271 dL_law_272 ?_
  refine bk_sc 2 C hH hX hbl hbA hj hL (lv_at hl 0 rfl) (lv_at hl 4 rfl) (by decide) (by decide) dL_law_273 dL_law_274 dL_law_276 dL_law_277 dL_law_278 ?_
  refine bk_sc 3 C hH hX hbl hbA hj hL (lv_at hl 0 rfl) (lv_at hl 4 rfl) (by decide) (by decide) dL_law_279 dL_law_280 dL_law_282 dL_law_283 dL_law_284 ?_
  refine bk_sc 4 C hH hX hbl hbA hj hL (lv_at hl 0 rfl) (lv_at hl 4 rfl) (by decide) (by decide) dL_law_285 dL_law_286 dL_law_288 dL_law_289 dL_law_290 ?_
  refine bk_sc 5 C hH hX hbl hbA hj hL (lv_at hl 0 rfl) (lv_at hl 4 rfl) (by decide) (by decide) dL_law_291 dL_law_292 dL_law_294 dL_law_295 dL_law_296 ?_
  refine bk_callV (b := a2) (rest := [.int r1]) (As := [.int ((xs (6 * j + 1))), .int ((xs (6 * j + 2))), .int ((xs (6 * j + 3))), .int ((xs (6 * j + 4))), .int ((xs (6 * j + 5)))]) (ro := some (.int r2)) (Y1 := Y) (V1 := V2) C hH hl.1 (c_X12_feed hq2) mc_X12_feed mv_X12_feed lk_RL_123 hs2 rfl rfl ⟨rfl, rfl⟩ ⟨by decide, by decide⟩ rfl (Nat.le_of_ble_eq_true rfl) dL_law_297 ⟨by have := hRc; show _ ≤ 601024; omega, by have := hRs; show _ ≤ 7293034; omega⟩ (fun H locs hH => ?_)
  refine W.widen (k := cells + 8) (n := slots + 400) (by omega) (by omega) ?_
  refine lv_icmp_eq (tgt := 2773) hx hb dL_law_300 (by decide) (fun _ => ?_) (fun hc => absurd hr hc)
  exact kk _ _ H locs ls hI hH hl
set_option maxRecDepth 100000 in
set_option maxHeartbeats 4000000 in
theorem arm_1 (C : bk_C G p s m args meth c cL_law RL 8 (some FieldType.boolean)) (hst : l.stackTraces = false) (hX : va_X b L xs s s.heap) (hbl : b < s.heap.size) (hbA : ¬ bk_A G b) (hj : 6 * j + 6 ≤ L) (hL : L ≤ 3072) (hRc : cells + 8 ≤ 601024) (hRs : slots + 400 ≤ 7293034) (hl : lv_has ls 8 [(0, .ref b), (1, .ref a1), (2, .ref a2), (3, .ref a3), (4, .int (Int32.ofNat (6 * j)))]) (hH : bk_H G Y V s.heap H locs) (hs1 : bk_sh Y a1 = (1, 10)) (hS : bk_st1 N a1 a2 a3 Y V (xs (6 * j + 1)) (xs (6 * j + 2)) (xs (6 * j + 3)) (xs (6 * j + 4)) (xs (6 * j + 5)) I) (kk : ∀ (Y : bk_Lay) (V : bk_Val) (H : Heap) (locs : List Loc) (ls : Array Slot), I Y V → bk_H G Y V s.heap H locs → lv_has ls 8 [(0, .ref b), (1, .ref a1), (2, .ref a2), (3, .ref a3), (4, .int (Int32.ofNat (6 * j)))] → W p l e room_1 s m args below meth c H locs (cells + 8) (slots + 400) Q (F0 m 2773 ls [])) : W p l e room_1 s m args below meth c H locs cells slots Q (F0 m 305 ls []) := by
  have hx := C.1
  have hb := C.2.1
  obtain ⟨out, hq1, he, ho, hS⟩ := hS
  refine lv_aload_n hx hb dL_law_305 rfl (lv_at hl 1 rfl) ?_
  refine bk_sc 1 C hH hX hbl hbA hj hL (lv_at hl 0 rfl) (lv_at hl 4 rfl) (by decide) (by decide) dL_law_306 dL_law_307 dL_law_309 dL_law_310 dL_law_311 ?_
  refine lv_aload_n hx hb dL_law_312 rfl (lv_at hl 3 rfl) ?_
  refine bk_callSh (rest := []) (As := [.ref a1, .int ((xs (6 * j + 1))), .ref a3]) C hH hl.1 (h_L_shed hst hq1 hs1 he ho) mh_L_shed st_L_shed lw_RL_124 rfl ⟨rfl, rfl⟩ ⟨by decide, by decide⟩ rfl (Nat.le_of_ble_eq_true rfl) dL_law_313 ⟨by have := hRc; show _ ≤ 601024; omega, by have := hRs; show _ ≤ 7293034; omega⟩ (fun k9 Y1 V1 H locs hk9 hH => ?_)
  obtain ⟨hs2, r2, V2, hq2, hs3, hq3, hs4, hr, hI⟩ := hS _ _ _ hk9
  refine lv_istore (lv' := [(5, .int k9), (0, .ref b), (1, .ref a1), (2, .ref a2), (3, .ref a3), (4, .int (Int32.ofNat (6 * j)))]) hx hb dL_law_316 hl (by decide) rfl (fun ls hl => ?_)
  refine lv_aload_n hx hb dL_law_318 rfl (lv_at hl 3 rfl) ?_
  refine bk_sc 1 C hH hX hbl hbA hj hL (lv_at hl 1 rfl) (lv_at hl 5 rfl) (by decide) (by decide) dL_law_319 dL_law_320 dL_law_322 dL_law_323 dL_law_324 ?_
  refine bk_callV (b := a2) (rest := []) (As := [.int ((xs (6 * j + 1)))]) (ro := some (.int r2)) (Y1 := Y1) (V1 := V2) C hH hl.1 (c_X12_shed hq2) mc_X12_shed mv_X12_shed lk_RL_129 hs2 rfl rfl ⟨rfl, rfl⟩ ⟨by decide, by decide⟩ rfl (Nat.le_of_ble_eq_true rfl) dL_law_325 ⟨by have := hRc; show _ ≤ 601024; omega, by have := hRs; show _ ≤ 7293034; omega⟩ (fun H locs hH => ?_)
  refine lv_istore (lv' := [(6, .int r2), (5, .int k9), (0, .ref b), (1, .ref a1), (2, .ref a2), (3, .ref a3), (4, .int (Int32.ofNat (6 * j)))]) hx hb dL_law_328 hl (by decide) rfl (fun ls hl => ?_)
  refine lv_aload_n hx hb dL_law_330 rfl (lv_at hl 4 rfl) ?_
  refine bk_callV (b := a2) (rest := []) (As := []) (ro := some (.int k9)) (Y1 := Y1) (V1 := V2) C hH hl.1 (c_X12_thrown hq3) mc_X12_thrown mv_X12_thrown lk_RL_130 hs3 rfl rfl ⟨rfl, rfl⟩ ⟨by decide, by decide⟩ rfl (Nat.le_of_ble_eq_true rfl) dL_law_331 ⟨by have := hRc; show _ ≤ 601024; omega, by have := hRs; show _ ≤ 7293034; omega⟩ (fun H locs hH => ?_)
  refine lv_iload hx hb dL_law_334 (lv_at hl 1 rfl) ?_
  refine W.widen (k := cells + 8) (n := slots + 400) (by omega) (by omega) ?_
  refine lv_icmp_eq (tgt := 341) hx hb dL_law_336 (by decide) (fun _ => ?_) (fun hc => absurd rfl hc)
  refine lv_iload hx hb dL_law_341 (lv_at hl 1 rfl) ?_
  refine lv_if_ne (tgt := 358) hx hb dL_law_343 (by decide) (fun _ => ?_) (fun hc => ?_)
  · skip
    refine lv_goto (tgt := 2773) hx hb dL_law_358 (by decide) ?_
    exact kk _ _ H locs ls hI hH (lv_sub hl [2, 3, 4, 5, 6] rfl)
  · have hk0 : k9 = 0 := hc
    refine lv_aload_n hx hb dL_law_346 rfl (lv_at hl 5 rfl) ?_
    refine lv_iconst (v := 0) hx hb dL_law_347 (by decide) ?_
    refine bk_lald C hH hs4 bk_in01 dL_law_348 ?_
    refine lv_iload hx hb dL_law_349 (lv_at hl 0 rfl) ?_
    refine lv_i2l hx hb dL_law_351 rfl ?_
    refine W.lcmp hx hb dL_law_352 ?_
    refine lv_if_eq (tgt := 358) hx hb dL_law_353 (by decide) (fun _ => ?_) (fun hc => absurd (bk_cmp0 (hr hk0)) hc)
    refine lv_goto (tgt := 2773) hx hb dL_law_358 (by decide) ?_
    exact kk _ _ H locs ls hI hH (lv_sub hl [2, 3, 4, 5, 6] rfl)
set_option maxRecDepth 100000 in
set_option maxHeartbeats 4000000 in
theorem arm_2 (C : bk_C G p s m args meth c cL_law RL 8 (some FieldType.boolean)) (hst : l.stackTraces = false) (hX : va_X b L xs s s.heap) (hbl : b < s.heap.size) (hbA : ¬ bk_A G b) (hj : 6 * j + 6 ≤ L) (hL : L ≤ 3072) (hRc : cells + 8 ≤ 601024) (hRs : slots + 400 ≤ 7293034) (hl : lv_has ls 8 [(0, .ref b), (1, .ref a1), (2, .ref a2), (3, .ref a3), (4, .int (Int32.ofNat (6 * j)))]) (hH : bk_H G Y V s.heap H locs) (hs1 : bk_sh Y a1 = (1, 10)) (hS : bk_st2 N a1 a2 a3 Y V (xs (6 * j + 1)) (xs (6 * j + 2)) (xs (6 * j + 3)) (xs (6 * j + 4)) (xs (6 * j + 5)) I) (kk : ∀ (Y : bk_Lay) (V : bk_Val) (H : Heap) (locs : List Loc) (ls : Array Slot), I Y V → bk_H G Y V s.heap H locs → lv_has ls 8 [(0, .ref b), (1, .ref a1), (2, .ref a2), (3, .ref a3), (4, .int (Int32.ofNat (6 * j)))] → W p l e room_1 s m args below meth c H locs (cells + 8) (slots + 400) Q (F0 m 2773 ls [])) : W p l e room_1 s m args below meth c H locs cells slots Q (F0 m 361 ls []) := by
  have hx := C.1
  have hb := C.2.1
  obtain ⟨r1, hq1, hs2, r2, V2, hq2, hr, hI⟩ := hS
  refine lv_aload_n hx hb dL_law_361 rfl (lv_at hl 1 rfl) ?_
  refine bk_callV (b := a1) (rest := []) (As := []) (ro := some (.int r1)) (Y1 := Y) (V1 := V) C hH hl.1 (c_X11_fault hq1) mc_X11_fault mv_X11_fault lk_RL_134 hs1 rfl rfl ⟨rfl, rfl⟩ ⟨by decide, by decide⟩ rfl (Nat.le_of_ble_eq_true rfl) dL_law_362 ⟨by have := hRc; show _ ≤ 601024; omega, by have := hRs; show _ ≤ 7293034; omega⟩ (fun H locs hH => ?_)
  refine lv_aload_n hx hb dL_law_365 rfl (lv_at hl 2 rfl) ?_
  refine bk_callV (b := a2) (rest := [.int r1]) (As := []) (ro := some (.int r2)) (Y1 := Y) (V1 := V2) C hH hl.1 (c_X12_fault hq2) mc_X12_fault mv_X12_fault lk_RL_137 hs2 rfl rfl ⟨rfl, rfl⟩ ⟨by decide, by decide⟩ rfl (Nat.le_of_ble_eq_true rfl) dL_law_366 ⟨by have := hRc; show _ ≤ 601024; omega, by have := hRs; show _ ≤ 7293034; omega⟩ (fun H locs hH => ?_)
  refine W.widen (k := cells + 8) (n := slots + 400) (by omega) (by omega) ?_
  refine lv_icmp_eq (tgt := 2773) hx hb dL_law_369 (by decide) (fun _ => ?_) (fun hc => absurd hr hc)
  exact kk _ _ H locs ls hI hH hl
set_option maxRecDepth 100000 in
set_option maxHeartbeats 4000000 in
theorem arm_3 (C : bk_C G p s m args meth c cL_law RL 8 (some FieldType.boolean)) (hst : l.stackTraces = false) (hX : va_X b L xs s s.heap) (hbl : b < s.heap.size) (hbA : ¬ bk_A G b) (hj : 6 * j + 6 ≤ L) (hL : L ≤ 3072) (hRc : cells + 8 ≤ 601024) (hRs : slots + 400 ≤ 7293034) (hl : lv_has ls 8 [(0, .ref b), (1, .ref a1), (2, .ref a2), (3, .ref a3), (4, .int (Int32.ofNat (6 * j)))]) (hH : bk_H G Y V s.heap H locs) (hs1 : bk_sh Y a1 = (1, 10)) (hS : bk_st3 N a1 a2 a3 Y V (xs (6 * j + 1)) (xs (6 * j + 2)) (xs (6 * j + 3)) (xs (6 * j + 4)) (xs (6 * j + 5)) I) (kk : ∀ (Y : bk_Lay) (V : bk_Val) (H : Heap) (locs : List Loc) (ls : Array Slot), I Y V → bk_H G Y V s.heap H locs → lv_has ls 8 [(0, .ref b), (1, .ref a1), (2, .ref a2), (3, .ref a3), (4, .int (Int32.ofNat (6 * j)))] → W p l e room_1 s m args below meth c H locs (cells + 8) (slots + 400) Q (F0 m 2773 ls [])) : W p l e room_1 s m args below meth c H locs cells slots Q (F0 m 374 ls []) := by
  have hx := C.1
  have hb := C.2.1
  obtain ⟨out, hq1, he, ho, hS⟩ := hS
  refine lv_aload_n hx hb dL_law_374 rfl (lv_at hl 1 rfl) ?_
  refine bk_sc 1 C hH hX hbl hbA hj hL (lv_at hl 0 rfl) (lv_at hl 4 rfl) (by decide) (by decide) dL_law_375 dL_law_376 dL_law_378 dL_law_379 dL_law_380 ?_
  refine lv_aload_n hx hb dL_law_381 rfl (lv_at hl 3 rfl) ?_
  refine bk_callSh (rest := []) (As := [.ref a1, .int ((xs (6 * j + 1))), .ref a3]) C hH hl.1 (h_L_count hst hq1 hs1 he ho) mh_L_count st_L_count lw_RL_138 rfl ⟨rfl, rfl⟩ ⟨by decide, by decide⟩ rfl (Nat.le_of_ble_eq_true rfl) dL_law_382 ⟨by have := hRc; show _ ≤ 601024; omega, by have := hRs; show _ ≤ 7293034; omega⟩ (fun k9 Y1 V1 H locs hk9 hH => ?_)
  obtain ⟨hs2, r2, V2, hq2, hs3, hq3, hs4, hr, hI⟩ := hS _ _ _ hk9
  refine lv_istore (lv' := [(5, .int k9), (0, .ref b), (1, .ref a1), (2, .ref a2), (3, .ref a3), (4, .int (Int32.ofNat (6 * j)))]) hx hb dL_law_385 hl (by decide) rfl (fun ls hl => ?_)
  refine lv_aload_n hx hb dL_law_387 rfl (lv_at hl 3 rfl) ?_
  refine bk_sc 1 C hH hX hbl hbA hj hL (lv_at hl 1 rfl) (lv_at hl 5 rfl) (by decide) (by decide) dL_law_388 dL_law_389 dL_law_391 dL_law_392 dL_law_393 ?_
  refine bk_callV (b := a2) (rest := []) (As := [.int ((xs (6 * j + 1)))]) (ro := some (.int r2)) (Y1 := Y1) (V1 := V2) C hH hl.1 (c_X12_count hq2) mc_X12_count mv_X12_count lk_RL_140 hs2 rfl rfl ⟨rfl, rfl⟩ ⟨by decide, by decide⟩ rfl (Nat.le_of_ble_eq_true rfl) dL_law_394 ⟨by have := hRc; show _ ≤ 601024; omega, by have := hRs; show _ ≤ 7293034; omega⟩ (fun H locs hH => ?_)
  refine lv_istore (lv' := [(6, .int r2), (5, .int k9), (0, .ref b), (1, .ref a1), (2, .ref a2), (3, .ref a3), (4, .int (Int32.ofNat (6 * j)))]) hx hb dL_law_397 hl (by decide) rfl (fun ls hl => ?_)
  refine lv_aload_n hx hb dL_law_399 rfl (lv_at hl 4 rfl) ?_
  refine bk_callV (b := a2) (rest := []) (As := []) (ro := some (.int k9)) (Y1 := Y1) (V1 := V2) C hH hl.1 (c_X12_thrown hq3) mc_X12_thrown mv_X12_thrown lk_RL_130 hs3 rfl rfl ⟨rfl, rfl⟩ ⟨by decide, by decide⟩ rfl (Nat.le_of_ble_eq_true rfl) dL_law_400 ⟨by have := hRc; show _ ≤ 601024; omega, by have := hRs; show _ ≤ 7293034; omega⟩ (fun H locs hH => ?_)
  refine lv_iload hx hb dL_law_403 (lv_at hl 1 rfl) ?_
  refine W.widen (k := cells + 8) (n := slots + 400) (by omega) (by omega) ?_
  refine lv_icmp_eq (tgt := 410) hx hb dL_law_405 (by decide) (fun _ => ?_) (fun hc => absurd rfl hc)
  refine lv_iload hx hb dL_law_410 (lv_at hl 1 rfl) ?_
  refine lv_if_ne (tgt := 427) hx hb dL_law_412 (by decide) (fun _ => ?_) (fun hc => ?_)
  · skip
    refine lv_goto (tgt := 2773) hx hb dL_law_427 (by decide) ?_
    exact kk _ _ H locs ls hI hH (lv_sub hl [2, 3, 4, 5, 6] rfl)
  · have hk0 : k9 = 0 := hc
    refine lv_aload_n hx hb dL_law_415 rfl (lv_at hl 5 rfl) ?_
    refine lv_iconst (v := 0) hx hb dL_law_416 (by decide) ?_
    refine bk_lald C hH hs4 bk_in01 dL_law_417 ?_
    refine lv_iload hx hb dL_law_418 (lv_at hl 0 rfl) ?_
    refine lv_i2l hx hb dL_law_420 rfl ?_
    refine W.lcmp hx hb dL_law_421 ?_
    refine lv_if_eq (tgt := 427) hx hb dL_law_422 (by decide) (fun _ => ?_) (fun hc => absurd (bk_cmp0 (hr hk0)) hc)
    refine lv_goto (tgt := 2773) hx hb dL_law_427 (by decide) ?_
    exact kk _ _ H locs ls hI hH (lv_sub hl [2, 3, 4, 5, 6] rfl)
set_option maxRecDepth 100000 in
set_option maxHeartbeats 4000000 in
theorem arm_4 (C : bk_C G p s m args meth c cL_law RL 8 (some FieldType.boolean)) (hst : l.stackTraces = false) (hX : va_X b L xs s s.heap) (hbl : b < s.heap.size) (hbA : ¬ bk_A G b) (hj : 6 * j + 6 ≤ L) (hL : L ≤ 3072) (hRc : cells + 8 ≤ 601024) (hRs : slots + 400 ≤ 7293034) (hl : lv_has ls 8 [(0, .ref b), (1, .ref a1), (2, .ref a2), (3, .ref a3), (4, .int (Int32.ofNat (6 * j)))]) (hH : bk_H G Y V s.heap H locs) (hs1 : bk_sh Y a1 = (1, 10)) (hS : bk_st4 N a1 a2 a3 Y V (xs (6 * j + 1)) (xs (6 * j + 2)) (xs (6 * j + 3)) (xs (6 * j + 4)) (xs (6 * j + 5)) I) (kk : ∀ (Y : bk_Lay) (V : bk_Val) (H : Heap) (locs : List Loc) (ls : Array Slot), I Y V → bk_H G Y V s.heap H locs → lv_has ls 8 [(0, .ref b), (1, .ref a1), (2, .ref a2), (3, .ref a3), (4, .int (Int32.ofNat (6 * j)))] → W p l e room_1 s m args below meth c H locs (cells + 8) (slots + 400) Q (F0 m 2773 ls [])) : W p l e room_1 s m args below meth c H locs cells slots Q (F0 m 430 ls []) := by
  have hx := C.1
  have hb := C.2.1
  obtain ⟨out, hq1, he, ho, hS⟩ := hS
  refine lv_aload_n hx hb dL_law_430 rfl (lv_at hl 1 rfl) ?_
  refine bk_sc 1 C hH hX hbl hbA hj hL (lv_at hl 0 rfl) (lv_at hl 4 rfl) (by decide) (by decide) dL_law_431 dL_law_432 dL_law_434 dL_law_435 dL_law_436 ?_
  refine bk_sc 2 C hH hX hbl hbA hj hL (lv_at hl 0 rfl) (lv_at hl 4 rfl) (by decide) (by decide) dL_law_437 dL_law_438 dL_law_440 dL_law_441 dL_law_442 ?_
  refine lv_aload_n hx hb dL_law_443 rfl (lv_at hl 3 rfl) ?_
  refine bk_callSh (rest := []) (As := [.ref a1, .int ((xs (6 * j + 1))), .int ((xs (6 * j + 2))), .ref a3]) C hH hl.1 (h_L_hole hst hq1 hs1 he ho) mh_L_hole st_L_hole lw_RL_141 rfl ⟨rfl, rfl⟩ ⟨by decide, by decide⟩ rfl (Nat.le_of_ble_eq_true rfl) dL_law_444 ⟨by have := hRc; show _ ≤ 601024; omega, by have := hRs; show _ ≤ 7293034; omega⟩ (fun k9 Y1 V1 H locs hk9 hH => ?_)
  obtain ⟨hs2, r2, V2, hq2, hs3, hq3, hs4, hr, hI⟩ := hS _ _ _ hk9
  refine lv_istore (lv' := [(5, .int k9), (0, .ref b), (1, .ref a1), (2, .ref a2), (3, .ref a3), (4, .int (Int32.ofNat (6 * j)))]) hx hb dL_law_447 hl (by decide) rfl (fun ls hl => ?_)
  refine lv_aload_n hx hb dL_law_449 rfl (lv_at hl 3 rfl) ?_
  refine bk_sc 1 C hH hX hbl hbA hj hL (lv_at hl 1 rfl) (lv_at hl 5 rfl) (by decide) (by decide) dL_law_450 dL_law_451 dL_law_453 dL_law_454 dL_law_455 ?_
  refine bk_sc 2 C hH hX hbl hbA hj hL (lv_at hl 1 rfl) (lv_at hl 5 rfl) (by decide) (by decide) dL_law_456 dL_law_457 dL_law_459 dL_law_460 dL_law_461 ?_
  refine bk_callV (b := a2) (rest := []) (As := [.int ((xs (6 * j + 1))), .int ((xs (6 * j + 2)))]) (ro := some (.int r2)) (Y1 := Y1) (V1 := V2) C hH hl.1 (c_X12_hole hq2) mc_X12_hole mv_X12_hole lk_RL_144 hs2 rfl rfl ⟨rfl, rfl⟩ ⟨by decide, by decide⟩ rfl (Nat.le_of_ble_eq_true rfl) dL_law_462 ⟨by have := hRc; show _ ≤ 601024; omega, by have := hRs; show _ ≤ 7293034; omega⟩ (fun H locs hH => ?_)
  refine lv_istore (lv' := [(6, .int r2), (5, .int k9), (0, .ref b), (1, .ref a1), (2, .ref a2), (3, .ref a3), (4, .int (Int32.ofNat (6 * j)))]) hx hb dL_law_465 hl (by decide) rfl (fun ls hl => ?_)
  refine lv_aload_n hx hb dL_law_467 rfl (lv_at hl 4 rfl) ?_
  refine bk_callV (b := a2) (rest := []) (As := []) (ro := some (.int k9)) (Y1 := Y1) (V1 := V2) C hH hl.1 (c_X12_thrown hq3) mc_X12_thrown mv_X12_thrown lk_RL_130 hs3 rfl rfl ⟨rfl, rfl⟩ ⟨by decide, by decide⟩ rfl (Nat.le_of_ble_eq_true rfl) dL_law_468 ⟨by have := hRc; show _ ≤ 601024; omega, by have := hRs; show _ ≤ 7293034; omega⟩ (fun H locs hH => ?_)
  refine lv_iload hx hb dL_law_471 (lv_at hl 1 rfl) ?_
  refine W.widen (k := cells + 8) (n := slots + 400) (by omega) (by omega) ?_
  refine lv_icmp_eq (tgt := 478) hx hb dL_law_473 (by decide) (fun _ => ?_) (fun hc => absurd rfl hc)
  refine lv_iload hx hb dL_law_478 (lv_at hl 1 rfl) ?_
  refine lv_if_ne (tgt := 495) hx hb dL_law_480 (by decide) (fun _ => ?_) (fun hc => ?_)
  · skip
    refine lv_goto (tgt := 2773) hx hb dL_law_495 (by decide) ?_
    exact kk _ _ H locs ls hI hH (lv_sub hl [2, 3, 4, 5, 6] rfl)
  · have hk0 : k9 = 0 := hc
    refine lv_aload_n hx hb dL_law_483 rfl (lv_at hl 5 rfl) ?_
    refine lv_iconst (v := 0) hx hb dL_law_484 (by decide) ?_
    refine bk_lald C hH hs4 bk_in01 dL_law_485 ?_
    refine lv_iload hx hb dL_law_486 (lv_at hl 0 rfl) ?_
    refine lv_i2l hx hb dL_law_488 rfl ?_
    refine W.lcmp hx hb dL_law_489 ?_
    refine lv_if_eq (tgt := 495) hx hb dL_law_490 (by decide) (fun _ => ?_) (fun hc => absurd (bk_cmp0 (hr hk0)) hc)
    refine lv_goto (tgt := 2773) hx hb dL_law_495 (by decide) ?_
    exact kk _ _ H locs ls hI hH (lv_sub hl [2, 3, 4, 5, 6] rfl)
set_option maxRecDepth 100000 in
set_option maxHeartbeats 4000000 in
theorem arm_5 (C : bk_C G p s m args meth c cL_law RL 8 (some FieldType.boolean)) (hst : l.stackTraces = false) (hX : va_X b L xs s s.heap) (hbl : b < s.heap.size) (hbA : ¬ bk_A G b) (hj : 6 * j + 6 ≤ L) (hL : L ≤ 3072) (hRc : cells + 8 ≤ 601024) (hRs : slots + 400 ≤ 7293034) (hl : lv_has ls 8 [(0, .ref b), (1, .ref a1), (2, .ref a2), (3, .ref a3), (4, .int (Int32.ofNat (6 * j)))]) (hH : bk_H G Y V s.heap H locs) (hs1 : bk_sh Y a1 = (1, 10)) (hS : bk_st5 N a1 a2 a3 Y V (xs (6 * j + 1)) (xs (6 * j + 2)) (xs (6 * j + 3)) (xs (6 * j + 4)) (xs (6 * j + 5)) I) (kk : ∀ (Y : bk_Lay) (V : bk_Val) (H : Heap) (locs : List Loc) (ls : Array Slot), I Y V → bk_H G Y V s.heap H locs → lv_has ls 8 [(0, .ref b), (1, .ref a1), (2, .ref a2), (3, .ref a3), (4, .int (Int32.ofNat (6 * j)))] → W p l e room_1 s m args below meth c H locs (cells + 8) (slots + 400) Q (F0 m 2773 ls [])) : W p l e room_1 s m args below meth c H locs cells slots Q (F0 m 498 ls []) := by
  have hx := C.1
  have hb := C.2.1
  obtain ⟨r1, V1, hq1, hs2, r2, V2, hq2, hr, hI⟩ := hS
  refine lv_aload_n hx hb dL_law_498 rfl (lv_at hl 1 rfl) ?_
  refine bk_sc 1 C hH hX hbl hbA hj hL (lv_at hl 0 rfl) (lv_at hl 4 rfl) (by decide) (by decide) dL_law_499 dL_law_500 dL_law_502 dL_law_503 dL_law_504 ?_
  refine bk_nb hx hb dL_law_505 dL_law_508 dL_law_509 dL_law_512 ?_
  refine bk_callV (b := a1) (rest := []) (As := [.int (bk_b (xs (6 * j + 1)))]) (ro := some (.int r1)) (Y1 := Y) (V1 := V1) C hH hl.1 (c_X11_leak hq1) mc_X11_leak mv_X11_leak lk_RL_145 hs1 rfl rfl ⟨rfl, rfl⟩ ⟨by decide, by decide⟩ rfl (Nat.le_of_ble_eq_true rfl) dL_law_513 ⟨by have := hRc; show _ ≤ 601024; omega, by have := hRs; show _ ≤ 7293034; omega⟩ (fun H locs hH => ?_)
  refine lv_aload_n hx hb dL_law_516 rfl (lv_at hl 2 rfl) ?_
  refine bk_sc 1 C hH hX hbl hbA hj hL (lv_at hl 0 rfl) (lv_at hl 4 rfl) (by decide) (by decide) dL_law_517 dL_law_518 dL_law_520 dL_law_521 dL_law_522 ?_
  refine bk_nb hx hb dL_law_523 dL_law_526 dL_law_527 dL_law_530 ?_
  refine bk_callV (b := a2) (rest := [.int r1]) (As := [.int (bk_b (xs (6 * j + 1)))]) (ro := some (.int r2)) (Y1 := Y) (V1 := V2) C hH hl.1 (c_X12_leak hq2) mc_X12_leak mv_X12_leak lk_RL_149 hs2 rfl rfl ⟨rfl, rfl⟩ ⟨by decide, by decide⟩ rfl (Nat.le_of_ble_eq_true rfl) dL_law_531 ⟨by have := hRc; show _ ≤ 601024; omega, by have := hRs; show _ ≤ 7293034; omega⟩ (fun H locs hH => ?_)
  refine W.widen (k := cells + 8) (n := slots + 400) (by omega) (by omega) ?_
  refine lv_icmp_eq (tgt := 2773) hx hb dL_law_534 (by decide) (fun _ => ?_) (fun hc => absurd hr hc)
  exact kk _ _ H locs ls hI hH hl
set_option maxRecDepth 100000 in
set_option maxHeartbeats 4000000 in
theorem arm_6 (C : bk_C G p s m args meth c cL_law RL 8 (some FieldType.boolean)) (hst : l.stackTraces = false) (hX : va_X b L xs s s.heap) (hbl : b < s.heap.size) (hbA : ¬ bk_A G b) (hj : 6 * j + 6 ≤ L) (hL : L ≤ 3072) (hRc : cells + 8 ≤ 601024) (hRs : slots + 400 ≤ 7293034) (hl : lv_has ls 8 [(0, .ref b), (1, .ref a1), (2, .ref a2), (3, .ref a3), (4, .int (Int32.ofNat (6 * j)))]) (hH : bk_H G Y V s.heap H locs) (hs1 : bk_sh Y a1 = (1, 10)) (hS : bk_st6 N a1 a2 a3 Y V (xs (6 * j + 1)) (xs (6 * j + 2)) (xs (6 * j + 3)) (xs (6 * j + 4)) (xs (6 * j + 5)) I) (kk : ∀ (Y : bk_Lay) (V : bk_Val) (H : Heap) (locs : List Loc) (ls : Array Slot), I Y V → bk_H G Y V s.heap H locs → lv_has ls 8 [(0, .ref b), (1, .ref a1), (2, .ref a2), (3, .ref a3), (4, .int (Int32.ofNat (6 * j)))] → W p l e room_1 s m args below meth c H locs (cells + 8) (slots + 400) Q (F0 m 2773 ls [])) : W p l e room_1 s m args below meth c H locs cells slots Q (F0 m 539 ls []) := by
  have hx := C.1
  have hb := C.2.1
  obtain ⟨r1, Y1, V1, hq1, hs2, r2, V2, hq2, hr, hI⟩ := hS
  refine lv_aload_n hx hb dL_law_539 rfl (lv_at hl 1 rfl) ?_
  refine bk_sc 1 C hH hX hbl hbA hj hL (lv_at hl 0 rfl) (lv_at hl 4 rfl) (by decide) (by decide) dL_law_540 dL_law_541 dL_law_543 dL_law_544 dL_law_545 ?_
  refine bk_sc 2 C hH hX hbl hbA hj hL (lv_at hl 0 rfl) (lv_at hl 4 rfl) (by decide) (by decide) dL_law_546 dL_law_547 dL_law_549 dL_law_550 dL_law_551 ?_
  refine bk_nb hx hb dL_law_552 dL_law_555 dL_law_556 dL_law_559 ?_
  refine bk_callV (b := a1) (rest := []) (As := [.int ((xs (6 * j + 1))), .int (bk_b (xs (6 * j + 2)))]) (ro := some (.int r1)) (Y1 := Y1) (V1 := V1) C hH hl.1 (c_X11_minutes hq1) mc_X11_minutes mv_X11_minutes lk_RL_150 hs1 rfl rfl ⟨rfl, rfl⟩ ⟨by decide, by decide⟩ rfl (Nat.le_of_ble_eq_true rfl) dL_law_560 ⟨by have := hRc; show _ ≤ 601024; omega, by have := hRs; show _ ≤ 7293034; omega⟩ (fun H locs hH => ?_)
  refine lv_aload_n hx hb dL_law_563 rfl (lv_at hl 2 rfl) ?_
  refine bk_sc 1 C hH hX hbl hbA hj hL (lv_at hl 0 rfl) (lv_at hl 4 rfl) (by decide) (by decide) dL_law_564 dL_law_565 dL_law_567 dL_law_568 dL_law_569 ?_
  refine bk_sc 2 C hH hX hbl hbA hj hL (lv_at hl 0 rfl) (lv_at hl 4 rfl) (by decide) (by decide) dL_law_570 dL_law_571 dL_law_573 dL_law_574 dL_law_575 ?_
  refine bk_nb hx hb dL_law_576 dL_law_579 dL_law_580 dL_law_583 ?_
  refine bk_callV (b := a2) (rest := [.int r1]) (As := [.int ((xs (6 * j + 1))), .int (bk_b (xs (6 * j + 2)))]) (ro := some (.int r2)) (Y1 := Y1) (V1 := V2) C hH hl.1 (c_X12_minutes hq2) mc_X12_minutes mv_X12_minutes lk_RL_153 hs2 rfl rfl ⟨rfl, rfl⟩ ⟨by decide, by decide⟩ rfl (Nat.le_of_ble_eq_true rfl) dL_law_584 ⟨by have := hRc; show _ ≤ 601024; omega, by have := hRs; show _ ≤ 7293034; omega⟩ (fun H locs hH => ?_)
  refine W.widen (k := cells + 8) (n := slots + 400) (by omega) (by omega) ?_
  refine lv_icmp_eq (tgt := 2773) hx hb dL_law_587 (by decide) (fun _ => ?_) (fun hc => absurd hr hc)
  exact kk _ _ H locs ls hI hH hl
set_option maxRecDepth 100000 in
set_option maxHeartbeats 4000000 in
theorem arm_7 (C : bk_C G p s m args meth c cL_law RL 8 (some FieldType.boolean)) (hst : l.stackTraces = false) (hX : va_X b L xs s s.heap) (hbl : b < s.heap.size) (hbA : ¬ bk_A G b) (hj : 6 * j + 6 ≤ L) (hL : L ≤ 3072) (hRc : cells + 8 ≤ 601024) (hRs : slots + 400 ≤ 7293034) (hl : lv_has ls 8 [(0, .ref b), (1, .ref a1), (2, .ref a2), (3, .ref a3), (4, .int (Int32.ofNat (6 * j)))]) (hH : bk_H G Y V s.heap H locs) (hs1 : bk_sh Y a1 = (1, 10)) (hS : bk_st7 N a1 a2 a3 Y V (xs (6 * j + 1)) (xs (6 * j + 2)) (xs (6 * j + 3)) (xs (6 * j + 4)) (xs (6 * j + 5)) I) (kk : ∀ (Y : bk_Lay) (V : bk_Val) (H : Heap) (locs : List Loc) (ls : Array Slot), I Y V → bk_H G Y V s.heap H locs → lv_has ls 8 [(0, .ref b), (1, .ref a1), (2, .ref a2), (3, .ref a3), (4, .int (Int32.ofNat (6 * j)))] → W p l e room_1 s m args below meth c H locs (cells + 8) (slots + 400) Q (F0 m 2773 ls [])) : W p l e room_1 s m args below meth c H locs cells slots Q (F0 m 592 ls []) := by
  have hx := C.1
  have hb := C.2.1
  obtain ⟨r1, Y1, V1, hq1, hs2, r2, V2, hq2, hr, hI⟩ := hS
  refine lv_aload_n hx hb dL_law_592 rfl (lv_at hl 1 rfl) ?_
  refine bk_callV (b := a1) (rest := []) (As := []) (ro := some (.int r1)) (Y1 := Y1) (V1 := V1) C hH hl.1 (c_X11_pump hq1) mc_X11_pump mv_X11_pump lk_RL_154 hs1 rfl rfl ⟨rfl, rfl⟩ ⟨by decide, by decide⟩ rfl (Nat.le_of_ble_eq_true rfl) dL_law_593 ⟨by have := hRc; show _ ≤ 601024; omega, by have := hRs; show _ ≤ 7293034; omega⟩ (fun H locs hH => ?_)
  refine lv_aload_n hx hb dL_law_596 rfl (lv_at hl 2 rfl) ?_
  refine bk_callV (b := a2) (rest := [.int r1]) (As := []) (ro := some (.int r2)) (Y1 := Y1) (V1 := V2) C hH hl.1 (c_X12_pump hq2) mc_X12_pump mv_X12_pump lk_RL_157 hs2 rfl rfl ⟨rfl, rfl⟩ ⟨by decide, by decide⟩ rfl (Nat.le_of_ble_eq_true rfl) dL_law_597 ⟨by have := hRc; show _ ≤ 601024; omega, by have := hRs; show _ ≤ 7293034; omega⟩ (fun H locs hH => ?_)
  refine W.widen (k := cells + 8) (n := slots + 400) (by omega) (by omega) ?_
  refine lv_icmp_eq (tgt := 2773) hx hb dL_law_600 (by decide) (fun _ => ?_) (fun hc => absurd hr hc)
  exact kk _ _ H locs ls hI hH hl
set_option maxRecDepth 100000 in
set_option maxHeartbeats 4000000 in
theorem arm_8 (C : bk_C G p s m args meth c cL_law RL 8 (some FieldType.boolean)) (hst : l.stackTraces = false) (hX : va_X b L xs s s.heap) (hbl : b < s.heap.size) (hbA : ¬ bk_A G b) (hj : 6 * j + 6 ≤ L) (hL : L ≤ 3072) (hRc : cells + 8 ≤ 601024) (hRs : slots + 400 ≤ 7293034) (hl : lv_has ls 8 [(0, .ref b), (1, .ref a1), (2, .ref a2), (3, .ref a3), (4, .int (Int32.ofNat (6 * j)))]) (hH : bk_H G Y V s.heap H locs) (hs1 : bk_sh Y a1 = (1, 10)) (hS : bk_st8 N a1 a2 a3 Y V (xs (6 * j + 1)) (xs (6 * j + 2)) (xs (6 * j + 3)) (xs (6 * j + 4)) (xs (6 * j + 5)) I) (kk : ∀ (Y : bk_Lay) (V : bk_Val) (H : Heap) (locs : List Loc) (ls : Array Slot), I Y V → bk_H G Y V s.heap H locs → lv_has ls 8 [(0, .ref b), (1, .ref a1), (2, .ref a2), (3, .ref a3), (4, .int (Int32.ofNat (6 * j)))] → W p l e room_1 s m args below meth c H locs (cells + 8) (slots + 400) Q (F0 m 2773 ls [])) : W p l e room_1 s m args below meth c H locs cells slots Q (F0 m 605 ls []) := by
  have hx := C.1
  have hb := C.2.1
  obtain ⟨r1, Y1, V1, hq1, hs2, r2, V2, hq2, hr, hI⟩ := hS
  refine lv_aload_n hx hb dL_law_605 rfl (lv_at hl 1 rfl) ?_
  refine bk_callV (b := a1) (rest := []) (As := []) (ro := some (.int r1)) (Y1 := Y1) (V1 := V1) C hH hl.1 (c_X11_undo hq1) mc_X11_undo mv_X11_undo lk_RL_158 hs1 rfl rfl ⟨rfl, rfl⟩ ⟨by decide, by decide⟩ rfl (Nat.le_of_ble_eq_true rfl) dL_law_606 ⟨by have := hRc; show _ ≤ 601024; omega, by have := hRs; show _ ≤ 7293034; omega⟩ (fun H locs hH => ?_)
  refine lv_aload_n hx hb dL_law_609 rfl (lv_at hl 2 rfl) ?_
  refine bk_callV (b := a2) (rest := [.int r1]) (As := []) (ro := some (.int r2)) (Y1 := Y1) (V1 := V2) C hH hl.1 (c_X12_undo hq2) mc_X12_undo mv_X12_undo lk_RL_161 hs2 rfl rfl ⟨rfl, rfl⟩ ⟨by decide, by decide⟩ rfl (Nat.le_of_ble_eq_true rfl) dL_law_610 ⟨by have := hRc; show _ ≤ 601024; omega, by have := hRs; show _ ≤ 7293034; omega⟩ (fun H locs hH => ?_)
  refine W.widen (k := cells + 8) (n := slots + 400) (by omega) (by omega) ?_
  refine lv_icmp_eq (tgt := 2773) hx hb dL_law_613 (by decide) (fun _ => ?_) (fun hc => absurd hr hc)
  exact kk _ _ H locs ls hI hH hl
set_option maxRecDepth 100000 in
set_option maxHeartbeats 4000000 in
theorem arm_9 (C : bk_C G p s m args meth c cL_law RL 8 (some FieldType.boolean)) (hst : l.stackTraces = false) (hX : va_X b L xs s s.heap) (hbl : b < s.heap.size) (hbA : ¬ bk_A G b) (hj : 6 * j + 6 ≤ L) (hL : L ≤ 3072) (hRc : cells + 8 ≤ 601024) (hRs : slots + 400 ≤ 7293034) (hl : lv_has ls 8 [(0, .ref b), (1, .ref a1), (2, .ref a2), (3, .ref a3), (4, .int (Int32.ofNat (6 * j)))]) (hH : bk_H G Y V s.heap H locs) (hs1 : bk_sh Y a1 = (1, 10)) (hS : bk_st9 N a1 a2 a3 Y V (xs (6 * j + 1)) (xs (6 * j + 2)) (xs (6 * j + 3)) (xs (6 * j + 4)) (xs (6 * j + 5)) I) (kk : ∀ (Y : bk_Lay) (V : bk_Val) (H : Heap) (locs : List Loc) (ls : Array Slot), I Y V → bk_H G Y V s.heap H locs → lv_has ls 8 [(0, .ref b), (1, .ref a1), (2, .ref a2), (3, .ref a3), (4, .int (Int32.ofNat (6 * j)))] → W p l e room_1 s m args below meth c H locs (cells + 8) (slots + 400) Q (F0 m 2773 ls [])) : W p l e room_1 s m args below meth c H locs cells slots Q (F0 m 618 ls []) := by
  have hx := C.1
  have hb := C.2.1
  obtain ⟨r1, V1, hq1, hs2, r2, V2, hq2, hr, hI⟩ := hS
  refine lv_aload_n hx hb dL_law_618 rfl (lv_at hl 1 rfl) ?_
  refine bk_sc 1 C hH hX hbl hbA hj hL (lv_at hl 0 rfl) (lv_at hl 4 rfl) (by decide) (by decide) dL_law_619 dL_law_620 dL_law_622 dL_law_623 dL_law_624 ?_
  refine bk_nb hx hb dL_law_625 dL_law_628 dL_law_629 dL_law_632 ?_
  refine bk_callV (b := a1) (rest := []) (As := [.int (bk_b (xs (6 * j + 1)))]) (ro := some (.int r1)) (Y1 := Y) (V1 := V1) C hH hl.1 (c_X11_flat hq1) mc_X11_flat mv_X11_flat lk_RL_162 hs1 rfl rfl ⟨rfl, rfl⟩ ⟨by decide, by decide⟩ rfl (Nat.le_of_ble_eq_true rfl) dL_law_633 ⟨by have := hRc; show _ ≤ 601024; omega, by have := hRs; show _ ≤ 7293034; omega⟩ (fun H locs hH => ?_)
  refine lv_aload_n hx hb dL_law_636 rfl (lv_at hl 2 rfl) ?_
  refine bk_sc 1 C hH hX hbl hbA hj hL (lv_at hl 0 rfl) (lv_at hl 4 rfl) (by decide) (by decide) dL_law_637 dL_law_638 dL_law_640 dL_law_641 dL_law_642 ?_
  refine bk_nb hx hb dL_law_643 dL_law_646 dL_law_647 dL_law_650 ?_
  refine bk_callV (b := a2) (rest := [.int r1]) (As := [.int (bk_b (xs (6 * j + 1)))]) (ro := some (.int r2)) (Y1 := Y) (V1 := V2) C hH hl.1 (c_X12_flat hq2) mc_X12_flat mv_X12_flat lk_RL_165 hs2 rfl rfl ⟨rfl, rfl⟩ ⟨by decide, by decide⟩ rfl (Nat.le_of_ble_eq_true rfl) dL_law_651 ⟨by have := hRc; show _ ≤ 601024; omega, by have := hRs; show _ ≤ 7293034; omega⟩ (fun H locs hH => ?_)
  refine W.widen (k := cells + 8) (n := slots + 400) (by omega) (by omega) ?_
  refine lv_icmp_eq (tgt := 2773) hx hb dL_law_654 (by decide) (fun _ => ?_) (fun hc => absurd hr hc)
  exact kk _ _ H locs ls hI hH hl
set_option maxRecDepth 100000 in
set_option maxHeartbeats 4000000 in
theorem arm_10 (C : bk_C G p s m args meth c cL_law RL 8 (some FieldType.boolean)) (hst : l.stackTraces = false) (hX : va_X b L xs s s.heap) (hbl : b < s.heap.size) (hbA : ¬ bk_A G b) (hj : 6 * j + 6 ≤ L) (hL : L ≤ 3072) (hRc : cells + 8 ≤ 601024) (hRs : slots + 400 ≤ 7293034) (hl : lv_has ls 8 [(0, .ref b), (1, .ref a1), (2, .ref a2), (3, .ref a3), (4, .int (Int32.ofNat (6 * j)))]) (hH : bk_H G Y V s.heap H locs) (hs1 : bk_sh Y a1 = (1, 10)) (hS : bk_st10 N a1 a2 a3 Y V (xs (6 * j + 1)) (xs (6 * j + 2)) (xs (6 * j + 3)) (xs (6 * j + 4)) (xs (6 * j + 5)) I) (kk : ∀ (Y : bk_Lay) (V : bk_Val) (H : Heap) (locs : List Loc) (ls : Array Slot), I Y V → bk_H G Y V s.heap H locs → lv_has ls 8 [(0, .ref b), (1, .ref a1), (2, .ref a2), (3, .ref a3), (4, .int (Int32.ofNat (6 * j)))] → W p l e room_1 s m args below meth c H locs (cells + 8) (slots + 400) Q (F0 m 2773 ls [])) : W p l e room_1 s m args below meth c H locs cells slots Q (F0 m 659 ls []) := by
  have hx := C.1
  have hb := C.2.1
  obtain ⟨r1, Y1, V1, hq1, hs2, r2, V2, hq2, hr, hI⟩ := hS
  refine lv_aload_n hx hb dL_law_659 rfl (lv_at hl 1 rfl) ?_
  refine bk_sc 1 C hH hX hbl hbA hj hL (lv_at hl 0 rfl) (lv_at hl 4 rfl) (by decide) (by decide) dL_law_660 dL_law_661 dL_law_663 dL_law_664 dL_law_665 ?_
  refine bk_sc 2 C hH hX hbl hbA hj hL (lv_at hl 0 rfl) (lv_at hl 4 rfl) (by decide) (by decide) dL_law_666 dL_law_667 dL_law_669 dL_law_670 dL_law_671 ?_
  refine bk_callV (b := a1) (rest := []) (As := [.int ((xs (6 * j + 1))), .int ((xs (6 * j + 2)))]) (ro := some (.int r1)) (Y1 := Y1) (V1 := V1) C hH hl.1 (c_X11_dip hq1) mc_X11_dip mv_X11_dip lk_RL_166 hs1 rfl rfl ⟨rfl, rfl⟩ ⟨by decide, by decide⟩ rfl (Nat.le_of_ble_eq_true rfl) dL_law_672 ⟨by have := hRc; show _ ≤ 601024; omega, by have := hRs; show _ ≤ 7293034; omega⟩ (fun H locs hH => ?_)
  refine lv_aload_n hx hb dL_law_675 rfl (lv_at hl 2 rfl) ?_
  refine bk_sc 1 C hH hX hbl hbA hj hL (lv_at hl 0 rfl) (lv_at hl 4 rfl) (by decide) (by decide) dL_law_676 dL_law_677 dL_law_679 dL_law_680 dL_law_681 ?_
  refine bk_sc 2 C hH hX hbl hbA hj hL (lv_at hl 0 rfl) (lv_at hl 4 rfl) (by decide) (by decide) dL_law_682 dL_law_683 dL_law_685 dL_law_686 dL_law_687 ?_
  refine bk_callV (b := a2) (rest := [.int r1]) (As := [.int ((xs (6 * j + 1))), .int ((xs (6 * j + 2)))]) (ro := some (.int r2)) (Y1 := Y1) (V1 := V2) C hH hl.1 (c_X12_dip hq2) mc_X12_dip mv_X12_dip lk_RL_169 hs2 rfl rfl ⟨rfl, rfl⟩ ⟨by decide, by decide⟩ rfl (Nat.le_of_ble_eq_true rfl) dL_law_688 ⟨by have := hRc; show _ ≤ 601024; omega, by have := hRs; show _ ≤ 7293034; omega⟩ (fun H locs hH => ?_)
  refine W.widen (k := cells + 8) (n := slots + 400) (by omega) (by omega) ?_
  refine lv_icmp_eq (tgt := 2773) hx hb dL_law_691 (by decide) (fun _ => ?_) (fun hc => absurd hr hc)
  exact kk _ _ H locs ls hI hH hl
set_option maxRecDepth 100000 in
set_option maxHeartbeats 4000000 in
theorem arm_11 (C : bk_C G p s m args meth c cL_law RL 8 (some FieldType.boolean)) (hst : l.stackTraces = false) (hX : va_X b L xs s s.heap) (hbl : b < s.heap.size) (hbA : ¬ bk_A G b) (hj : 6 * j + 6 ≤ L) (hL : L ≤ 3072) (hRc : cells + 8 ≤ 601024) (hRs : slots + 400 ≤ 7293034) (hl : lv_has ls 8 [(0, .ref b), (1, .ref a1), (2, .ref a2), (3, .ref a3), (4, .int (Int32.ofNat (6 * j)))]) (hH : bk_H G Y V s.heap H locs) (hs1 : bk_sh Y a1 = (1, 10)) (hS : bk_st11 N a1 a2 a3 Y V (xs (6 * j + 1)) (xs (6 * j + 2)) (xs (6 * j + 3)) (xs (6 * j + 4)) (xs (6 * j + 5)) I) (kk : ∀ (Y : bk_Lay) (V : bk_Val) (H : Heap) (locs : List Loc) (ls : Array Slot), I Y V → bk_H G Y V s.heap H locs → lv_has ls 8 [(0, .ref b), (1, .ref a1), (2, .ref a2), (3, .ref a3), (4, .int (Int32.ofNat (6 * j)))] → W p l e room_1 s m args below meth c H locs (cells + 8) (slots + 400) Q (F0 m 2773 ls [])) : W p l e room_1 s m args below meth c H locs cells slots Q (F0 m 696 ls []) := by
  have hx := C.1
  have hb := C.2.1
  obtain ⟨r1, Y1, V1, hq1, hs2, r2, V2, hq2, hr, hI⟩ := hS
  refine lv_aload_n hx hb dL_law_696 rfl (lv_at hl 1 rfl) ?_
  refine bk_sc 1 C hH hX hbl hbA hj hL (lv_at hl 0 rfl) (lv_at hl 4 rfl) (by decide) (by decide) dL_law_697 dL_law_698 dL_law_700 dL_law_701 dL_law_702 ?_
  refine bk_sc 2 C hH hX hbl hbA hj hL (lv_at hl 0 rfl) (lv_at hl 4 rfl) (by decide) (by decide) dL_law_703 dL_law_704 dL_law_706 dL_law_707 dL_law_708 ?_
  refine bk_callV (b := a1) (rest := []) (As := [.int ((xs (6 * j + 1))), .int ((xs (6 * j + 2)))]) (ro := some (.int r1)) (Y1 := Y1) (V1 := V1) C hH hl.1 (c_X11_listen hq1) mc_X11_listen mv_X11_listen lk_RL_170 hs1 rfl rfl ⟨rfl, rfl⟩ ⟨by decide, by decide⟩ rfl (Nat.le_of_ble_eq_true rfl) dL_law_709 ⟨by have := hRc; show _ ≤ 601024; omega, by have := hRs; show _ ≤ 7293034; omega⟩ (fun H locs hH => ?_)
  refine lv_aload_n hx hb dL_law_712 rfl (lv_at hl 2 rfl) ?_
  refine bk_sc 1 C hH hX hbl hbA hj hL (lv_at hl 0 rfl) (lv_at hl 4 rfl) (by decide) (by decide) dL_law_713 dL_law_714 dL_law_716 dL_law_717 dL_law_718 ?_
  refine bk_sc 2 C hH hX hbl hbA hj hL (lv_at hl 0 rfl) (lv_at hl 4 rfl) (by decide) (by decide) dL_law_719 dL_law_720 dL_law_722 dL_law_723 dL_law_724 ?_
  refine bk_callV (b := a2) (rest := [.int r1]) (As := [.int ((xs (6 * j + 1))), .int ((xs (6 * j + 2)))]) (ro := some (.int r2)) (Y1 := Y1) (V1 := V2) C hH hl.1 (c_X12_listen hq2) mc_X12_listen mv_X12_listen lk_RL_173 hs2 rfl rfl ⟨rfl, rfl⟩ ⟨by decide, by decide⟩ rfl (Nat.le_of_ble_eq_true rfl) dL_law_725 ⟨by have := hRc; show _ ≤ 601024; omega, by have := hRs; show _ ≤ 7293034; omega⟩ (fun H locs hH => ?_)
  refine W.widen (k := cells + 8) (n := slots + 400) (by omega) (by omega) ?_
  refine lv_icmp_eq (tgt := 2773) hx hb dL_law_728 (by decide) (fun _ => ?_) (fun hc => absurd hr hc)
  exact kk _ _ H locs ls hI hH hl
set_option maxRecDepth 100000 in
set_option maxHeartbeats 4000000 in
theorem arm_12 (C : bk_C G p s m args meth c cL_law RL 8 (some FieldType.boolean)) (hst : l.stackTraces = false) (hX : va_X b L xs s s.heap) (hbl : b < s.heap.size) (hbA : ¬ bk_A G b) (hj : 6 * j + 6 ≤ L) (hL : L ≤ 3072) (hRc : cells + 8 ≤ 601024) (hRs : slots + 400 ≤ 7293034) (hl : lv_has ls 8 [(0, .ref b), (1, .ref a1), (2, .ref a2), (3, .ref a3), (4, .int (Int32.ofNat (6 * j)))]) (hH : bk_H G Y V s.heap H locs) (hs1 : bk_sh Y a1 = (1, 10)) (hS : bk_st12 N a1 a2 a3 Y V (xs (6 * j + 1)) (xs (6 * j + 2)) (xs (6 * j + 3)) (xs (6 * j + 4)) (xs (6 * j + 5)) I) (kk : ∀ (Y : bk_Lay) (V : bk_Val) (H : Heap) (locs : List Loc) (ls : Array Slot), I Y V → bk_H G Y V s.heap H locs → lv_has ls 8 [(0, .ref b), (1, .ref a1), (2, .ref a2), (3, .ref a3), (4, .int (Int32.ofNat (6 * j)))] → W p l e room_1 s m args below meth c H locs (cells + 8) (slots + 400) Q (F0 m 2773 ls [])) : W p l e room_1 s m args below meth c H locs cells slots Q (F0 m 733 ls []) := by
  have hx := C.1
  have hb := C.2.1
  obtain ⟨out, hq1, he, ho, hS⟩ := hS
  refine lv_aload_n hx hb dL_law_733 rfl (lv_at hl 1 rfl) ?_
  refine bk_sc 1 C hH hX hbl hbA hj hL (lv_at hl 0 rfl) (lv_at hl 4 rfl) (by decide) (by decide) dL_law_734 dL_law_735 dL_law_737 dL_law_738 dL_law_739 ?_
  refine lv_aload_n hx hb dL_law_740 rfl (lv_at hl 3 rfl) ?_
  refine bk_callSh (rest := []) (As := [.ref a1, .int ((xs (6 * j + 1))), .ref a3]) C hH hl.1 (h_L_weight hst hq1 hs1 he ho) mh_L_weight st_L_weight lw_RL_174 rfl ⟨rfl, rfl⟩ ⟨by decide, by decide⟩ rfl (Nat.le_of_ble_eq_true rfl) dL_law_741 ⟨by have := hRc; show _ ≤ 601024; omega, by have := hRs; show _ ≤ 7293034; omega⟩ (fun k9 Y1 V1 H locs hk9 hH => ?_)
  obtain ⟨hs2, r2, V2, hq2, hs3, hq3, hs4, hr, hI⟩ := hS _ _ _ hk9
  refine lv_istore (lv' := [(5, .int k9), (0, .ref b), (1, .ref a1), (2, .ref a2), (3, .ref a3), (4, .int (Int32.ofNat (6 * j)))]) hx hb dL_law_744 hl (by decide) rfl (fun ls hl => ?_)
  refine lv_aload_n hx hb dL_law_746 rfl (lv_at hl 3 rfl) ?_
  refine bk_sc 1 C hH hX hbl hbA hj hL (lv_at hl 1 rfl) (lv_at hl 5 rfl) (by decide) (by decide) dL_law_747 dL_law_748 dL_law_750 dL_law_751 dL_law_752 ?_
  refine bk_callV (b := a2) (rest := []) (As := [.int ((xs (6 * j + 1)))]) (ro := some (.long r2)) (Y1 := Y1) (V1 := V2) C hH hl.1 (c_X12_weight hq2) mc_X12_weight mv_X12_weight lk_RL_176 hs2 rfl rfl ⟨rfl, rfl⟩ ⟨by decide, by decide⟩ rfl (Nat.le_of_ble_eq_true rfl) dL_law_753 ⟨by have := hRc; show _ ≤ 601024; omega, by have := hRs; show _ ≤ 7293034; omega⟩ (fun H locs hH => ?_)
  refine lv_lstore (lv' := [(6, .long r2), (5, .int k9), (0, .ref b), (1, .ref a1), (2, .ref a2), (3, .ref a3), (4, .int (Int32.ofNat (6 * j)))]) hx hb dL_law_756 hl (by decide) rfl (fun ls hl => ?_)
  refine lv_aload_n hx hb dL_law_758 rfl (lv_at hl 4 rfl) ?_
  refine bk_callV (b := a2) (rest := []) (As := []) (ro := some (.int k9)) (Y1 := Y1) (V1 := V2) C hH hl.1 (c_X12_thrown hq3) mc_X12_thrown mv_X12_thrown lk_RL_130 hs3 rfl rfl ⟨rfl, rfl⟩ ⟨by decide, by decide⟩ rfl (Nat.le_of_ble_eq_true rfl) dL_law_759 ⟨by have := hRc; show _ ≤ 601024; omega, by have := hRs; show _ ≤ 7293034; omega⟩ (fun H locs hH => ?_)
  refine lv_iload hx hb dL_law_762 (lv_at hl 1 rfl) ?_
  refine W.widen (k := cells + 8) (n := slots + 400) (by omega) (by omega) ?_
  refine lv_icmp_eq (tgt := 769) hx hb dL_law_764 (by decide) (fun _ => ?_) (fun hc => absurd rfl hc)
  refine lv_iload hx hb dL_law_769 (lv_at hl 1 rfl) ?_
  refine lv_if_ne (tgt := 785) hx hb dL_law_771 (by decide) (fun _ => ?_) (fun hc => ?_)
  · skip
    refine lv_goto (tgt := 2773) hx hb dL_law_785 (by decide) ?_
    exact kk _ _ H locs ls hI hH (lv_sub hl [2, 3, 4, 5, 6] rfl)
  · have hk0 : k9 = 0 := hc
    refine lv_aload_n hx hb dL_law_774 rfl (lv_at hl 5 rfl) ?_
    refine lv_iconst (v := 0) hx hb dL_law_775 (by decide) ?_
    refine bk_lald C hH hs4 bk_in01 dL_law_776 ?_
    refine lv_lload hx hb dL_law_777 (lv_at hl 0 rfl) ?_
    refine W.lcmp hx hb dL_law_779 ?_
    refine lv_if_eq (tgt := 785) hx hb dL_law_780 (by decide) (fun _ => ?_) (fun hc => absurd (bk_cmp0 (hr hk0)) hc)
    refine lv_goto (tgt := 2773) hx hb dL_law_785 (by decide) ?_
    exact kk _ _ H locs ls hI hH (lv_sub hl [2, 3, 4, 5, 6] rfl)
set_option maxRecDepth 100000 in
set_option maxHeartbeats 4000000 in
theorem arm_13 (C : bk_C G p s m args meth c cL_law RL 8 (some FieldType.boolean)) (hst : l.stackTraces = false) (hX : va_X b L xs s s.heap) (hbl : b < s.heap.size) (hbA : ¬ bk_A G b) (hj : 6 * j + 6 ≤ L) (hL : L ≤ 3072) (hRc : cells + 8 ≤ 601024) (hRs : slots + 400 ≤ 7293034) (hl : lv_has ls 8 [(0, .ref b), (1, .ref a1), (2, .ref a2), (3, .ref a3), (4, .int (Int32.ofNat (6 * j)))]) (hH : bk_H G Y V s.heap H locs) (hs1 : bk_sh Y a1 = (1, 10)) (hS : bk_st13 N a1 a2 a3 Y V (xs (6 * j + 1)) (xs (6 * j + 2)) (xs (6 * j + 3)) (xs (6 * j + 4)) (xs (6 * j + 5)) I) (kk : ∀ (Y : bk_Lay) (V : bk_Val) (H : Heap) (locs : List Loc) (ls : Array Slot), I Y V → bk_H G Y V s.heap H locs → lv_has ls 8 [(0, .ref b), (1, .ref a1), (2, .ref a2), (3, .ref a3), (4, .int (Int32.ofNat (6 * j)))] → W p l e room_1 s m args below meth c H locs (cells + 8) (slots + 400) Q (F0 m 2773 ls [])) : W p l e room_1 s m args below meth c H locs cells slots Q (F0 m 788 ls []) := by
  have hx := C.1
  have hb := C.2.1
  obtain ⟨out, hq1, he, ho, hS⟩ := hS
  refine lv_aload_n hx hb dL_law_788 rfl (lv_at hl 1 rfl) ?_
  refine bk_sc 1 C hH hX hbl hbA hj hL (lv_at hl 0 rfl) (lv_at hl 4 rfl) (by decide) (by decide) dL_law_789 dL_law_790 dL_law_792 dL_law_793 dL_law_794 ?_
  refine lv_aload_n hx hb dL_law_795 rfl (lv_at hl 3 rfl) ?_
  refine bk_callSh (rest := []) (As := [.ref a1, .int ((xs (6 * j + 1))), .ref a3]) C hH hl.1 (h_L_odds hst hq1 hs1 he ho) mh_L_odds st_L_odds lw_RL_177 rfl ⟨rfl, rfl⟩ ⟨by decide, by decide⟩ rfl (Nat.le_of_ble_eq_true rfl) dL_law_796 ⟨by have := hRc; show _ ≤ 601024; omega, by have := hRs; show _ ≤ 7293034; omega⟩ (fun k9 Y1 V1 H locs hk9 hH => ?_)
  obtain ⟨hs2, r2, V2, hq2, hs3, hq3, hs4, hr, hI⟩ := hS _ _ _ hk9
  refine lv_istore (lv' := [(5, .int k9), (0, .ref b), (1, .ref a1), (2, .ref a2), (3, .ref a3), (4, .int (Int32.ofNat (6 * j)))]) hx hb dL_law_799 hl (by decide) rfl (fun ls hl => ?_)
  refine lv_aload_n hx hb dL_law_801 rfl (lv_at hl 3 rfl) ?_
  refine bk_sc 1 C hH hX hbl hbA hj hL (lv_at hl 1 rfl) (lv_at hl 5 rfl) (by decide) (by decide) dL_law_802 dL_law_803 dL_law_805 dL_law_806 dL_law_807 ?_
  refine bk_callV (b := a2) (rest := []) (As := [.int ((xs (6 * j + 1)))]) (ro := some (.int r2)) (Y1 := Y1) (V1 := V2) C hH hl.1 (c_X12_odds hq2) mc_X12_odds mv_X12_odds lk_RL_179 hs2 rfl rfl ⟨rfl, rfl⟩ ⟨by decide, by decide⟩ rfl (Nat.le_of_ble_eq_true rfl) dL_law_808 ⟨by have := hRc; show _ ≤ 601024; omega, by have := hRs; show _ ≤ 7293034; omega⟩ (fun H locs hH => ?_)
  refine lv_istore (lv' := [(6, .int r2), (5, .int k9), (0, .ref b), (1, .ref a1), (2, .ref a2), (3, .ref a3), (4, .int (Int32.ofNat (6 * j)))]) hx hb dL_law_811 hl (by decide) rfl (fun ls hl => ?_)
  refine lv_aload_n hx hb dL_law_813 rfl (lv_at hl 4 rfl) ?_
  refine bk_callV (b := a2) (rest := []) (As := []) (ro := some (.int k9)) (Y1 := Y1) (V1 := V2) C hH hl.1 (c_X12_thrown hq3) mc_X12_thrown mv_X12_thrown lk_RL_130 hs3 rfl rfl ⟨rfl, rfl⟩ ⟨by decide, by decide⟩ rfl (Nat.le_of_ble_eq_true rfl) dL_law_814 ⟨by have := hRc; show _ ≤ 601024; omega, by have := hRs; show _ ≤ 7293034; omega⟩ (fun H locs hH => ?_)
  refine lv_iload hx hb dL_law_817 (lv_at hl 1 rfl) ?_
  refine W.widen (k := cells + 8) (n := slots + 400) (by omega) (by omega) ?_
  refine lv_icmp_eq (tgt := 824) hx hb dL_law_819 (by decide) (fun _ => ?_) (fun hc => absurd rfl hc)
  refine lv_iload hx hb dL_law_824 (lv_at hl 1 rfl) ?_
  refine lv_if_ne (tgt := 841) hx hb dL_law_826 (by decide) (fun _ => ?_) (fun hc => ?_)
  · skip
    refine lv_goto (tgt := 2773) hx hb dL_law_841 (by decide) ?_
    exact kk _ _ H locs ls hI hH (lv_sub hl [2, 3, 4, 5, 6] rfl)
  · have hk0 : k9 = 0 := hc
    refine lv_aload_n hx hb dL_law_829 rfl (lv_at hl 5 rfl) ?_
    refine lv_iconst (v := 0) hx hb dL_law_830 (by decide) ?_
    refine bk_lald C hH hs4 bk_in01 dL_law_831 ?_
    refine lv_iload hx hb dL_law_832 (lv_at hl 0 rfl) ?_
    refine lv_i2l hx hb dL_law_834 rfl ?_
    refine W.lcmp hx hb dL_law_835 ?_
    refine lv_if_eq (tgt := 841) hx hb dL_law_836 (by decide) (fun _ => ?_) (fun hc => absurd (bk_cmp0 (hr hk0)) hc)
    refine lv_goto (tgt := 2773) hx hb dL_law_841 (by decide) ?_
    exact kk _ _ H locs ls hI hH (lv_sub hl [2, 3, 4, 5, 6] rfl)
set_option maxRecDepth 100000 in
set_option maxHeartbeats 4000000 in
theorem arm_14 (C : bk_C G p s m args meth c cL_law RL 8 (some FieldType.boolean)) (hst : l.stackTraces = false) (hX : va_X b L xs s s.heap) (hbl : b < s.heap.size) (hbA : ¬ bk_A G b) (hj : 6 * j + 6 ≤ L) (hL : L ≤ 3072) (hRc : cells + 8 ≤ 601024) (hRs : slots + 400 ≤ 7293034) (hl : lv_has ls 8 [(0, .ref b), (1, .ref a1), (2, .ref a2), (3, .ref a3), (4, .int (Int32.ofNat (6 * j)))]) (hH : bk_H G Y V s.heap H locs) (hs1 : bk_sh Y a1 = (1, 10)) (hS : bk_st14 N a1 a2 a3 Y V (xs (6 * j + 1)) (xs (6 * j + 2)) (xs (6 * j + 3)) (xs (6 * j + 4)) (xs (6 * j + 5)) I) (kk : ∀ (Y : bk_Lay) (V : bk_Val) (H : Heap) (locs : List Loc) (ls : Array Slot), I Y V → bk_H G Y V s.heap H locs → lv_has ls 8 [(0, .ref b), (1, .ref a1), (2, .ref a2), (3, .ref a3), (4, .int (Int32.ofNat (6 * j)))] → W p l e room_1 s m args below meth c H locs (cells + 8) (slots + 400) Q (F0 m 2773 ls [])) : W p l e room_1 s m args below meth c H locs cells slots Q (F0 m 844 ls []) := by
  have hx := C.1
  have hb := C.2.1
  obtain ⟨out, hq1, he, ho, hS⟩ := hS
  refine lv_aload_n hx hb dL_law_844 rfl (lv_at hl 1 rfl) ?_
  refine bk_sc 1 C hH hX hbl hbA hj hL (lv_at hl 0 rfl) (lv_at hl 4 rfl) (by decide) (by decide) dL_law_845 dL_law_846 dL_law_848 dL_law_849 dL_law_850 ?_
  refine lv_aload_n hx hb dL_law_851 rfl (lv_at hl 3 rfl) ?_
  refine bk_callSh (rest := []) (As := [.ref a1, .int ((xs (6 * j + 1))), .ref a3]) C hH hl.1 (h_L_next hst hq1 hs1 he ho) mh_L_next st_L_next lw_RL_180 rfl ⟨rfl, rfl⟩ ⟨by decide, by decide⟩ rfl (Nat.le_of_ble_eq_true rfl) dL_law_852 ⟨by have := hRc; show _ ≤ 601024; omega, by have := hRs; show _ ≤ 7293034; omega⟩ (fun k9 Y1 V1 H locs hk9 hH => ?_)
  obtain ⟨hs2, r2, V2, hq2, hs3, hq3, hs4, hr, hI⟩ := hS _ _ _ hk9
  refine lv_istore (lv' := [(5, .int k9), (0, .ref b), (1, .ref a1), (2, .ref a2), (3, .ref a3), (4, .int (Int32.ofNat (6 * j)))]) hx hb dL_law_855 hl (by decide) rfl (fun ls hl => ?_)
  refine lv_aload_n hx hb dL_law_857 rfl (lv_at hl 3 rfl) ?_
  refine bk_sc 1 C hH hX hbl hbA hj hL (lv_at hl 1 rfl) (lv_at hl 5 rfl) (by decide) (by decide) dL_law_858 dL_law_859 dL_law_861 dL_law_862 dL_law_863 ?_
  refine bk_callV (b := a2) (rest := []) (As := [.int ((xs (6 * j + 1)))]) (ro := some (.int r2)) (Y1 := Y1) (V1 := V2) C hH hl.1 (c_X12_next hq2) mc_X12_next mv_X12_next lk_RL_182 hs2 rfl rfl ⟨rfl, rfl⟩ ⟨by decide, by decide⟩ rfl (Nat.le_of_ble_eq_true rfl) dL_law_864 ⟨by have := hRc; show _ ≤ 601024; omega, by have := hRs; show _ ≤ 7293034; omega⟩ (fun H locs hH => ?_)
  refine lv_istore (lv' := [(6, .int r2), (5, .int k9), (0, .ref b), (1, .ref a1), (2, .ref a2), (3, .ref a3), (4, .int (Int32.ofNat (6 * j)))]) hx hb dL_law_867 hl (by decide) rfl (fun ls hl => ?_)
  refine lv_aload_n hx hb dL_law_869 rfl (lv_at hl 4 rfl) ?_
  refine bk_callV (b := a2) (rest := []) (As := []) (ro := some (.int k9)) (Y1 := Y1) (V1 := V2) C hH hl.1 (c_X12_thrown hq3) mc_X12_thrown mv_X12_thrown lk_RL_130 hs3 rfl rfl ⟨rfl, rfl⟩ ⟨by decide, by decide⟩ rfl (Nat.le_of_ble_eq_true rfl) dL_law_870 ⟨by have := hRc; show _ ≤ 601024; omega, by have := hRs; show _ ≤ 7293034; omega⟩ (fun H locs hH => ?_)
  refine lv_iload hx hb dL_law_873 (lv_at hl 1 rfl) ?_
  refine W.widen (k := cells + 8) (n := slots + 400) (by omega) (by omega) ?_
  refine lv_icmp_eq (tgt := 880) hx hb dL_law_875 (by decide) (fun _ => ?_) (fun hc => absurd rfl hc)
  refine lv_iload hx hb dL_law_880 (lv_at hl 1 rfl) ?_
  refine lv_if_ne (tgt := 897) hx hb dL_law_882 (by decide) (fun _ => ?_) (fun hc => ?_)
  · skip
    refine lv_goto (tgt := 2773) hx hb dL_law_897 (by decide) ?_
    exact kk _ _ H locs ls hI hH (lv_sub hl [2, 3, 4, 5, 6] rfl)
  · have hk0 : k9 = 0 := hc
    refine lv_aload_n hx hb dL_law_885 rfl (lv_at hl 5 rfl) ?_
    refine lv_iconst (v := 0) hx hb dL_law_886 (by decide) ?_
    refine bk_lald C hH hs4 bk_in01 dL_law_887 ?_
    refine lv_iload hx hb dL_law_888 (lv_at hl 0 rfl) ?_
    refine lv_i2l hx hb dL_law_890 rfl ?_
    refine W.lcmp hx hb dL_law_891 ?_
    refine lv_if_eq (tgt := 897) hx hb dL_law_892 (by decide) (fun _ => ?_) (fun hc => absurd (bk_cmp0 (hr hk0)) hc)
    refine lv_goto (tgt := 2773) hx hb dL_law_897 (by decide) ?_
    exact kk _ _ H locs ls hI hH (lv_sub hl [2, 3, 4, 5, 6] rfl)
set_option maxRecDepth 100000 in
set_option maxHeartbeats 4000000 in
theorem arm_15 (C : bk_C G p s m args meth c cL_law RL 8 (some FieldType.boolean)) (hst : l.stackTraces = false) (hX : va_X b L xs s s.heap) (hbl : b < s.heap.size) (hbA : ¬ bk_A G b) (hj : 6 * j + 6 ≤ L) (hL : L ≤ 3072) (hRc : cells + 8 ≤ 601024) (hRs : slots + 400 ≤ 7293034) (hl : lv_has ls 8 [(0, .ref b), (1, .ref a1), (2, .ref a2), (3, .ref a3), (4, .int (Int32.ofNat (6 * j)))]) (hH : bk_H G Y V s.heap H locs) (hs1 : bk_sh Y a1 = (1, 10)) (hS : bk_st15 N a1 a2 a3 Y V (xs (6 * j + 1)) (xs (6 * j + 2)) (xs (6 * j + 3)) (xs (6 * j + 4)) (xs (6 * j + 5)) I) (kk : ∀ (Y : bk_Lay) (V : bk_Val) (H : Heap) (locs : List Loc) (ls : Array Slot), I Y V → bk_H G Y V s.heap H locs → lv_has ls 8 [(0, .ref b), (1, .ref a1), (2, .ref a2), (3, .ref a3), (4, .int (Int32.ofNat (6 * j)))] → W p l e room_1 s m args below meth c H locs (cells + 8) (slots + 400) Q (F0 m 2773 ls [])) : W p l e room_1 s m args below meth c H locs cells slots Q (F0 m 900 ls []) := by
  have hx := C.1
  have hb := C.2.1
  obtain ⟨out, hq1, he, ho, hS⟩ := hS
  refine lv_aload_n hx hb dL_law_900 rfl (lv_at hl 1 rfl) ?_
  refine bk_sc 1 C hH hX hbl hbA hj hL (lv_at hl 0 rfl) (lv_at hl 4 rfl) (by decide) (by decide) dL_law_901 dL_law_902 dL_law_904 dL_law_905 dL_law_906 ?_
  refine lv_aload_n hx hb dL_law_907 rfl (lv_at hl 3 rfl) ?_
  refine bk_callSh (rest := []) (As := [.ref a1, .int ((xs (6 * j + 1))), .ref a3]) C hH hl.1 (h_L_plan hst hq1 hs1 he ho) mh_L_plan st_L_plan lw_RL_183 rfl ⟨rfl, rfl⟩ ⟨by decide, by decide⟩ rfl (Nat.le_of_ble_eq_true rfl) dL_law_908 ⟨by have := hRc; show _ ≤ 601024; omega, by have := hRs; show _ ≤ 7293034; omega⟩ (fun k9 Y1 V1 H locs hk9 hH => ?_)
  obtain ⟨hs2, r2, V2, hq2, hs3, hq3, hs4, hr, hI⟩ := hS _ _ _ hk9
  refine lv_istore (lv' := [(5, .int k9), (0, .ref b), (1, .ref a1), (2, .ref a2), (3, .ref a3), (4, .int (Int32.ofNat (6 * j)))]) hx hb dL_law_911 hl (by decide) rfl (fun ls hl => ?_)
  refine lv_aload_n hx hb dL_law_913 rfl (lv_at hl 3 rfl) ?_
  refine bk_sc 1 C hH hX hbl hbA hj hL (lv_at hl 1 rfl) (lv_at hl 5 rfl) (by decide) (by decide) dL_law_914 dL_law_915 dL_law_917 dL_law_918 dL_law_919 ?_
  refine bk_callV (b := a2) (rest := []) (As := [.int ((xs (6 * j + 1)))]) (ro := some (.int r2)) (Y1 := Y1) (V1 := V2) C hH hl.1 (c_X12_plan hq2) mc_X12_plan mv_X12_plan lk_RL_185 hs2 rfl rfl ⟨rfl, rfl⟩ ⟨by decide, by decide⟩ rfl (Nat.le_of_ble_eq_true rfl) dL_law_920 ⟨by have := hRc; show _ ≤ 601024; omega, by have := hRs; show _ ≤ 7293034; omega⟩ (fun H locs hH => ?_)
  refine lv_istore (lv' := [(6, .int r2), (5, .int k9), (0, .ref b), (1, .ref a1), (2, .ref a2), (3, .ref a3), (4, .int (Int32.ofNat (6 * j)))]) hx hb dL_law_923 hl (by decide) rfl (fun ls hl => ?_)
  refine lv_aload_n hx hb dL_law_925 rfl (lv_at hl 4 rfl) ?_
  refine bk_callV (b := a2) (rest := []) (As := []) (ro := some (.int k9)) (Y1 := Y1) (V1 := V2) C hH hl.1 (c_X12_thrown hq3) mc_X12_thrown mv_X12_thrown lk_RL_130 hs3 rfl rfl ⟨rfl, rfl⟩ ⟨by decide, by decide⟩ rfl (Nat.le_of_ble_eq_true rfl) dL_law_926 ⟨by have := hRc; show _ ≤ 601024; omega, by have := hRs; show _ ≤ 7293034; omega⟩ (fun H locs hH => ?_)
  refine lv_iload hx hb dL_law_929 (lv_at hl 1 rfl) ?_
  refine W.widen (k := cells + 8) (n := slots + 400) (by omega) (by omega) ?_
  refine lv_icmp_eq (tgt := 936) hx hb dL_law_931 (by decide) (fun _ => ?_) (fun hc => absurd rfl hc)
  refine lv_iload hx hb dL_law_936 (lv_at hl 1 rfl) ?_
  refine lv_if_ne (tgt := 953) hx hb dL_law_938 (by decide) (fun _ => ?_) (fun hc => ?_)
  · skip
    refine lv_goto (tgt := 2773) hx hb dL_law_953 (by decide) ?_
    exact kk _ _ H locs ls hI hH (lv_sub hl [2, 3, 4, 5, 6] rfl)
  · have hk0 : k9 = 0 := hc
    refine lv_aload_n hx hb dL_law_941 rfl (lv_at hl 5 rfl) ?_
    refine lv_iconst (v := 0) hx hb dL_law_942 (by decide) ?_
    refine bk_lald C hH hs4 bk_in01 dL_law_943 ?_
    refine lv_iload hx hb dL_law_944 (lv_at hl 0 rfl) ?_
    refine lv_i2l hx hb dL_law_946 rfl ?_
    refine W.lcmp hx hb dL_law_947 ?_
    refine lv_if_eq (tgt := 953) hx hb dL_law_948 (by decide) (fun _ => ?_) (fun hc => absurd (bk_cmp0 (hr hk0)) hc)
    refine lv_goto (tgt := 2773) hx hb dL_law_953 (by decide) ?_
    exact kk _ _ H locs ls hI hH (lv_sub hl [2, 3, 4, 5, 6] rfl)
set_option maxRecDepth 100000 in
set_option maxHeartbeats 4000000 in
theorem arm_16 (C : bk_C G p s m args meth c cL_law RL 8 (some FieldType.boolean)) (hst : l.stackTraces = false) (hX : va_X b L xs s s.heap) (hbl : b < s.heap.size) (hbA : ¬ bk_A G b) (hj : 6 * j + 6 ≤ L) (hL : L ≤ 3072) (hRc : cells + 8 ≤ 601024) (hRs : slots + 400 ≤ 7293034) (hl : lv_has ls 8 [(0, .ref b), (1, .ref a1), (2, .ref a2), (3, .ref a3), (4, .int (Int32.ofNat (6 * j)))]) (hH : bk_H G Y V s.heap H locs) (hs1 : bk_sh Y a1 = (1, 10)) (hS : bk_st16 N a1 a2 a3 Y V (xs (6 * j + 1)) (xs (6 * j + 2)) (xs (6 * j + 3)) (xs (6 * j + 4)) (xs (6 * j + 5)) I) (kk : ∀ (Y : bk_Lay) (V : bk_Val) (H : Heap) (locs : List Loc) (ls : Array Slot), I Y V → bk_H G Y V s.heap H locs → lv_has ls 8 [(0, .ref b), (1, .ref a1), (2, .ref a2), (3, .ref a3), (4, .int (Int32.ofNat (6 * j)))] → W p l e room_1 s m args below meth c H locs (cells + 8) (slots + 400) Q (F0 m 2773 ls [])) : W p l e room_1 s m args below meth c H locs cells slots Q (F0 m 956 ls []) := by
  have hx := C.1
  have hb := C.2.1
  obtain ⟨out, hq1, he, ho, hS⟩ := hS
  refine lv_aload_n hx hb dL_law_956 rfl (lv_at hl 1 rfl) ?_
  refine bk_sc 1 C hH hX hbl hbA hj hL (lv_at hl 0 rfl) (lv_at hl 4 rfl) (by decide) (by decide) dL_law_957 dL_law_958 dL_law_960 dL_law_961 dL_law_962 ?_
  refine lv_aload_n hx hb dL_law_963 rfl (lv_at hl 3 rfl) ?_
  refine bk_callSh (rest := []) (As := [.ref a1, .int ((xs (6 * j + 1))), .ref a3]) C hH hl.1 (h_L_planned hst hq1 hs1 he ho) mh_L_planned st_L_planned lw_RL_186 rfl ⟨rfl, rfl⟩ ⟨by decide, by decide⟩ rfl (Nat.le_of_ble_eq_true rfl) dL_law_964 ⟨by have := hRc; show _ ≤ 601024; omega, by have := hRs; show _ ≤ 7293034; omega⟩ (fun k9 Y1 V1 H locs hk9 hH => ?_)
  obtain ⟨hs2, r2, V2, hq2, hs3, hq3, hs4, hr, hI⟩ := hS _ _ _ hk9
  refine lv_istore (lv' := [(5, .int k9), (0, .ref b), (1, .ref a1), (2, .ref a2), (3, .ref a3), (4, .int (Int32.ofNat (6 * j)))]) hx hb dL_law_967 hl (by decide) rfl (fun ls hl => ?_)
  refine lv_aload_n hx hb dL_law_969 rfl (lv_at hl 3 rfl) ?_
  refine bk_sc 1 C hH hX hbl hbA hj hL (lv_at hl 1 rfl) (lv_at hl 5 rfl) (by decide) (by decide) dL_law_970 dL_law_971 dL_law_973 dL_law_974 dL_law_975 ?_
  refine bk_callV (b := a2) (rest := []) (As := [.int ((xs (6 * j + 1)))]) (ro := some (.int r2)) (Y1 := Y1) (V1 := V2) C hH hl.1 (c_X12_planned hq2) mc_X12_planned mv_X12_planned lk_RL_188 hs2 rfl rfl ⟨rfl, rfl⟩ ⟨by decide, by decide⟩ rfl (Nat.le_of_ble_eq_true rfl) dL_law_976 ⟨by have := hRc; show _ ≤ 601024; omega, by have := hRs; show _ ≤ 7293034; omega⟩ (fun H locs hH => ?_)
  refine lv_istore (lv' := [(6, .int r2), (5, .int k9), (0, .ref b), (1, .ref a1), (2, .ref a2), (3, .ref a3), (4, .int (Int32.ofNat (6 * j)))]) hx hb dL_law_979 hl (by decide) rfl (fun ls hl => ?_)
  refine lv_aload_n hx hb dL_law_981 rfl (lv_at hl 4 rfl) ?_
  refine bk_callV (b := a2) (rest := []) (As := []) (ro := some (.int k9)) (Y1 := Y1) (V1 := V2) C hH hl.1 (c_X12_thrown hq3) mc_X12_thrown mv_X12_thrown lk_RL_130 hs3 rfl rfl ⟨rfl, rfl⟩ ⟨by decide, by decide⟩ rfl (Nat.le_of_ble_eq_true rfl) dL_law_982 ⟨by have := hRc; show _ ≤ 601024; omega, by have := hRs; show _ ≤ 7293034; omega⟩ (fun H locs hH => ?_)
  refine lv_iload hx hb dL_law_985 (lv_at hl 1 rfl) ?_
  refine W.widen (k := cells + 8) (n := slots + 400) (by omega) (by omega) ?_
  refine lv_icmp_eq (tgt := 992) hx hb dL_law_987 (by decide) (fun _ => ?_) (fun hc => absurd rfl hc)
  refine lv_iload hx hb dL_law_992 (lv_at hl 1 rfl) ?_
  refine lv_if_ne (tgt := 1009) hx hb dL_law_994 (by decide) (fun _ => ?_) (fun hc => ?_)
  · skip
    refine lv_goto (tgt := 2773) hx hb dL_law_1009 (by decide) ?_
    exact kk _ _ H locs ls hI hH (lv_sub hl [2, 3, 4, 5, 6] rfl)
  · have hk0 : k9 = 0 := hc
    refine lv_aload_n hx hb dL_law_997 rfl (lv_at hl 5 rfl) ?_
    refine lv_iconst (v := 0) hx hb dL_law_998 (by decide) ?_
    refine bk_lald C hH hs4 bk_in01 dL_law_999 ?_
    refine lv_iload hx hb dL_law_1000 (lv_at hl 0 rfl) ?_
    refine lv_i2l hx hb dL_law_1002 rfl ?_
    refine W.lcmp hx hb dL_law_1003 ?_
    refine lv_if_eq (tgt := 1009) hx hb dL_law_1004 (by decide) (fun _ => ?_) (fun hc => absurd (bk_cmp0 (hr hk0)) hc)
    refine lv_goto (tgt := 2773) hx hb dL_law_1009 (by decide) ?_
    exact kk _ _ H locs ls hI hH (lv_sub hl [2, 3, 4, 5, 6] rfl)
set_option maxRecDepth 100000 in
set_option maxHeartbeats 4000000 in
theorem arm_17 (C : bk_C G p s m args meth c cL_law RL 8 (some FieldType.boolean)) (hst : l.stackTraces = false) (hX : va_X b L xs s s.heap) (hbl : b < s.heap.size) (hbA : ¬ bk_A G b) (hj : 6 * j + 6 ≤ L) (hL : L ≤ 3072) (hRc : cells + 8 ≤ 601024) (hRs : slots + 400 ≤ 7293034) (hl : lv_has ls 8 [(0, .ref b), (1, .ref a1), (2, .ref a2), (3, .ref a3), (4, .int (Int32.ofNat (6 * j)))]) (hH : bk_H G Y V s.heap H locs) (hs1 : bk_sh Y a1 = (1, 10)) (hS : bk_st17 N a1 a2 a3 Y V (xs (6 * j + 1)) (xs (6 * j + 2)) (xs (6 * j + 3)) (xs (6 * j + 4)) (xs (6 * j + 5)) I) (kk : ∀ (Y : bk_Lay) (V : bk_Val) (H : Heap) (locs : List Loc) (ls : Array Slot), I Y V → bk_H G Y V s.heap H locs → lv_has ls 8 [(0, .ref b), (1, .ref a1), (2, .ref a2), (3, .ref a3), (4, .int (Int32.ofNat (6 * j)))] → W p l e room_1 s m args below meth c H locs (cells + 8) (slots + 400) Q (F0 m 2773 ls [])) : W p l e room_1 s m args below meth c H locs cells slots Q (F0 m 1012 ls []) := by
  have hx := C.1
  have hb := C.2.1
  obtain ⟨out, hq1, he, ho, hS⟩ := hS
  refine lv_aload_n hx hb dL_law_1012 rfl (lv_at hl 1 rfl) ?_
  refine bk_sc 1 C hH hX hbl hbA hj hL (lv_at hl 0 rfl) (lv_at hl 4 rfl) (by decide) (by decide) dL_law_1013 dL_law_1014 dL_law_1016 dL_law_1017 dL_law_1018 ?_
  refine bk_sc 2 C hH hX hbl hbA hj hL (lv_at hl 0 rfl) (lv_at hl 4 rfl) (by decide) (by decide) dL_law_1019 dL_law_1020 dL_law_1022 dL_law_1023 dL_law_1024 ?_
  refine bk_nb hx hb dL_law_1025 dL_law_1028 dL_law_1029 dL_law_1032 ?_
  refine bk_sc 3 C hH hX hbl hbA hj hL (lv_at hl 0 rfl) (lv_at hl 4 rfl) (by decide) (by decide) dL_law_1033 dL_law_1034 dL_law_1036 dL_law_1037 dL_law_1038 ?_
  refine lv_aload_n hx hb dL_law_1039 rfl (lv_at hl 3 rfl) ?_
  refine bk_callSh (rest := []) (As := [.ref a1, .int ((xs (6 * j + 1))), .int (bk_b (xs (6 * j + 2))), .int ((xs (6 * j + 3))), .ref a3]) C hH hl.1 (h_L_seek hst hq1 hs1 he ho) mh_L_seek st_L_seek lw_RL_189 rfl ⟨rfl, rfl⟩ ⟨by decide, by decide⟩ rfl (Nat.le_of_ble_eq_true rfl) dL_law_1040 ⟨by have := hRc; show _ ≤ 601024; omega, by have := hRs; show _ ≤ 7293034; omega⟩ (fun k9 Y1 V1 H locs hk9 hH => ?_)
  obtain ⟨hs2, r2, V2, hq2, hs3, hq3, hs4, hr, hI⟩ := hS _ _ _ hk9
  refine lv_istore (lv' := [(5, .int k9), (0, .ref b), (1, .ref a1), (2, .ref a2), (3, .ref a3), (4, .int (Int32.ofNat (6 * j)))]) hx hb dL_law_1043 hl (by decide) rfl (fun ls hl => ?_)
  refine lv_aload_n hx hb dL_law_1045 rfl (lv_at hl 3 rfl) ?_
  refine bk_sc 1 C hH hX hbl hbA hj hL (lv_at hl 1 rfl) (lv_at hl 5 rfl) (by decide) (by decide) dL_law_1046 dL_law_1047 dL_law_1049 dL_law_1050 dL_law_1051 ?_
  refine bk_sc 2 C hH hX hbl hbA hj hL (lv_at hl 1 rfl) (lv_at hl 5 rfl) (by decide) (by decide) dL_law_1052 dL_law_1053 dL_law_1055 dL_law_1056 dL_law_1057 ?_
  refine bk_nb hx hb dL_law_1058 dL_law_1061 dL_law_1062 dL_law_1065 ?_
  refine bk_sc 3 C hH hX hbl hbA hj hL (lv_at hl 1 rfl) (lv_at hl 5 rfl) (by decide) (by decide) dL_law_1066 dL_law_1067 dL_law_1069 dL_law_1070 dL_law_1071 ?_
  refine bk_callV (b := a2) (rest := []) (As := [.int ((xs (6 * j + 1))), .int (bk_b (xs (6 * j + 2))), .int ((xs (6 * j + 3)))]) (ro := some (.int r2)) (Y1 := Y1) (V1 := V2) C hH hl.1 (c_X12_seek hq2) mc_X12_seek mv_X12_seek lk_RL_192 hs2 rfl rfl ⟨rfl, rfl⟩ ⟨by decide, by decide⟩ rfl (Nat.le_of_ble_eq_true rfl) dL_law_1072 ⟨by have := hRc; show _ ≤ 601024; omega, by have := hRs; show _ ≤ 7293034; omega⟩ (fun H locs hH => ?_)
  refine lv_istore (lv' := [(6, .int r2), (5, .int k9), (0, .ref b), (1, .ref a1), (2, .ref a2), (3, .ref a3), (4, .int (Int32.ofNat (6 * j)))]) hx hb dL_law_1075 hl (by decide) rfl (fun ls hl => ?_)
  refine lv_aload_n hx hb dL_law_1077 rfl (lv_at hl 4 rfl) ?_
  refine bk_callV (b := a2) (rest := []) (As := []) (ro := some (.int k9)) (Y1 := Y1) (V1 := V2) C hH hl.1 (c_X12_thrown hq3) mc_X12_thrown mv_X12_thrown lk_RL_130 hs3 rfl rfl ⟨rfl, rfl⟩ ⟨by decide, by decide⟩ rfl (Nat.le_of_ble_eq_true rfl) dL_law_1078 ⟨by have := hRc; show _ ≤ 601024; omega, by have := hRs; show _ ≤ 7293034; omega⟩ (fun H locs hH => ?_)
  refine lv_iload hx hb dL_law_1081 (lv_at hl 1 rfl) ?_
  refine W.widen (k := cells + 8) (n := slots + 400) (by omega) (by omega) ?_
  refine lv_icmp_eq (tgt := 1088) hx hb dL_law_1083 (by decide) (fun _ => ?_) (fun hc => absurd rfl hc)
  refine lv_iload hx hb dL_law_1088 (lv_at hl 1 rfl) ?_
  refine lv_if_ne (tgt := 1105) hx hb dL_law_1090 (by decide) (fun _ => ?_) (fun hc => ?_)
  · skip
    refine lv_goto (tgt := 2773) hx hb dL_law_1105 (by decide) ?_
    exact kk _ _ H locs ls hI hH (lv_sub hl [2, 3, 4, 5, 6] rfl)
  · have hk0 : k9 = 0 := hc
    refine lv_aload_n hx hb dL_law_1093 rfl (lv_at hl 5 rfl) ?_
    refine lv_iconst (v := 0) hx hb dL_law_1094 (by decide) ?_
    refine bk_lald C hH hs4 bk_in01 dL_law_1095 ?_
    refine lv_iload hx hb dL_law_1096 (lv_at hl 0 rfl) ?_
    refine lv_i2l hx hb dL_law_1098 rfl ?_
    refine W.lcmp hx hb dL_law_1099 ?_
    refine lv_if_eq (tgt := 1105) hx hb dL_law_1100 (by decide) (fun _ => ?_) (fun hc => absurd (bk_cmp0 (hr hk0)) hc)
    refine lv_goto (tgt := 2773) hx hb dL_law_1105 (by decide) ?_
    exact kk _ _ H locs ls hI hH (lv_sub hl [2, 3, 4, 5, 6] rfl)
set_option maxRecDepth 100000 in
set_option maxHeartbeats 4000000 in
theorem arm_18 (C : bk_C G p s m args meth c cL_law RL 8 (some FieldType.boolean)) (hst : l.stackTraces = false) (hX : va_X b L xs s s.heap) (hbl : b < s.heap.size) (hbA : ¬ bk_A G b) (hj : 6 * j + 6 ≤ L) (hL : L ≤ 3072) (hRc : cells + 8 ≤ 601024) (hRs : slots + 400 ≤ 7293034) (hl : lv_has ls 8 [(0, .ref b), (1, .ref a1), (2, .ref a2), (3, .ref a3), (4, .int (Int32.ofNat (6 * j)))]) (hH : bk_H G Y V s.heap H locs) (hs1 : bk_sh Y a1 = (1, 10)) (hS : bk_st18 N a1 a2 a3 Y V (xs (6 * j + 1)) (xs (6 * j + 2)) (xs (6 * j + 3)) (xs (6 * j + 4)) (xs (6 * j + 5)) I) (kk : ∀ (Y : bk_Lay) (V : bk_Val) (H : Heap) (locs : List Loc) (ls : Array Slot), I Y V → bk_H G Y V s.heap H locs → lv_has ls 8 [(0, .ref b), (1, .ref a1), (2, .ref a2), (3, .ref a3), (4, .int (Int32.ofNat (6 * j)))] → W p l e room_1 s m args below meth c H locs (cells + 8) (slots + 400) Q (F0 m 2773 ls [])) : W p l e room_1 s m args below meth c H locs cells slots Q (F0 m 1108 ls []) := by
  have hx := C.1
  have hb := C.2.1
  obtain ⟨out, hq1, he, ho, hS⟩ := hS
  refine lv_aload_n hx hb dL_law_1108 rfl (lv_at hl 1 rfl) ?_
  refine bk_sc 1 C hH hX hbl hbA hj hL (lv_at hl 0 rfl) (lv_at hl 4 rfl) (by decide) (by decide) dL_law_1109 dL_law_1110 dL_law_1112 dL_law_1113 dL_law_1114 ?_
  refine lv_aload_n hx hb dL_law_1115 rfl (lv_at hl 3 rfl) ?_
  refine bk_callSh (rest := []) (As := [.ref a1, .int ((xs (6 * j + 1))), .ref a3]) C hH hl.1 (h_L_air hst hq1 hs1 he ho) mh_L_air st_L_air lw_RL_193 rfl ⟨rfl, rfl⟩ ⟨by decide, by decide⟩ rfl (Nat.le_of_ble_eq_true rfl) dL_law_1116 ⟨by have := hRc; show _ ≤ 601024; omega, by have := hRs; show _ ≤ 7293034; omega⟩ (fun k9 Y1 V1 H locs hk9 hH => ?_)
  obtain ⟨hs2, r2, V2, hq2, hs3, hq3, hs4, hr, hI⟩ := hS _ _ _ hk9
  refine lv_istore (lv' := [(5, .int k9), (0, .ref b), (1, .ref a1), (2, .ref a2), (3, .ref a3), (4, .int (Int32.ofNat (6 * j)))]) hx hb dL_law_1119 hl (by decide) rfl (fun ls hl => ?_)
  refine lv_aload_n hx hb dL_law_1121 rfl (lv_at hl 3 rfl) ?_
  refine bk_sc 1 C hH hX hbl hbA hj hL (lv_at hl 1 rfl) (lv_at hl 5 rfl) (by decide) (by decide) dL_law_1122 dL_law_1123 dL_law_1125 dL_law_1126 dL_law_1127 ?_
  refine bk_callV (b := a2) (rest := []) (As := [.int ((xs (6 * j + 1)))]) (ro := some (.int r2)) (Y1 := Y1) (V1 := V2) C hH hl.1 (c_X12_air hq2) mc_X12_air mv_X12_air lk_RL_195 hs2 rfl rfl ⟨rfl, rfl⟩ ⟨by decide, by decide⟩ rfl (Nat.le_of_ble_eq_true rfl) dL_law_1128 ⟨by have := hRc; show _ ≤ 601024; omega, by have := hRs; show _ ≤ 7293034; omega⟩ (fun H locs hH => ?_)
  refine lv_istore (lv' := [(6, .int r2), (5, .int k9), (0, .ref b), (1, .ref a1), (2, .ref a2), (3, .ref a3), (4, .int (Int32.ofNat (6 * j)))]) hx hb dL_law_1131 hl (by decide) rfl (fun ls hl => ?_)
  refine lv_aload_n hx hb dL_law_1133 rfl (lv_at hl 4 rfl) ?_
  refine bk_callV (b := a2) (rest := []) (As := []) (ro := some (.int k9)) (Y1 := Y1) (V1 := V2) C hH hl.1 (c_X12_thrown hq3) mc_X12_thrown mv_X12_thrown lk_RL_130 hs3 rfl rfl ⟨rfl, rfl⟩ ⟨by decide, by decide⟩ rfl (Nat.le_of_ble_eq_true rfl) dL_law_1134 ⟨by have := hRc; show _ ≤ 601024; omega, by have := hRs; show _ ≤ 7293034; omega⟩ (fun H locs hH => ?_)
  refine lv_iload hx hb dL_law_1137 (lv_at hl 1 rfl) ?_
  refine W.widen (k := cells + 8) (n := slots + 400) (by omega) (by omega) ?_
  refine lv_icmp_eq (tgt := 1144) hx hb dL_law_1139 (by decide) (fun _ => ?_) (fun hc => absurd rfl hc)
  refine lv_iload hx hb dL_law_1144 (lv_at hl 1 rfl) ?_
  refine lv_if_ne (tgt := 1161) hx hb dL_law_1146 (by decide) (fun _ => ?_) (fun hc => ?_)
  · skip
    refine lv_goto (tgt := 2773) hx hb dL_law_1161 (by decide) ?_
    exact kk _ _ H locs ls hI hH (lv_sub hl [2, 3, 4, 5, 6] rfl)
  · have hk0 : k9 = 0 := hc
    refine lv_aload_n hx hb dL_law_1149 rfl (lv_at hl 5 rfl) ?_
    refine lv_iconst (v := 0) hx hb dL_law_1150 (by decide) ?_
    refine bk_lald C hH hs4 bk_in01 dL_law_1151 ?_
    refine lv_iload hx hb dL_law_1152 (lv_at hl 0 rfl) ?_
    refine lv_i2l hx hb dL_law_1154 rfl ?_
    refine W.lcmp hx hb dL_law_1155 ?_
    refine lv_if_eq (tgt := 1161) hx hb dL_law_1156 (by decide) (fun _ => ?_) (fun hc => absurd (bk_cmp0 (hr hk0)) hc)
    refine lv_goto (tgt := 2773) hx hb dL_law_1161 (by decide) ?_
    exact kk _ _ H locs ls hI hH (lv_sub hl [2, 3, 4, 5, 6] rfl)
set_option maxRecDepth 100000 in
set_option maxHeartbeats 4000000 in
theorem arm_19 (C : bk_C G p s m args meth c cL_law RL 8 (some FieldType.boolean)) (hst : l.stackTraces = false) (hX : va_X b L xs s s.heap) (hbl : b < s.heap.size) (hbA : ¬ bk_A G b) (hj : 6 * j + 6 ≤ L) (hL : L ≤ 3072) (hRc : cells + 8 ≤ 601024) (hRs : slots + 400 ≤ 7293034) (hl : lv_has ls 8 [(0, .ref b), (1, .ref a1), (2, .ref a2), (3, .ref a3), (4, .int (Int32.ofNat (6 * j)))]) (hH : bk_H G Y V s.heap H locs) (hs1 : bk_sh Y a1 = (1, 10)) (hS : bk_st19 N a1 a2 a3 Y V (xs (6 * j + 1)) (xs (6 * j + 2)) (xs (6 * j + 3)) (xs (6 * j + 4)) (xs (6 * j + 5)) I) (kk : ∀ (Y : bk_Lay) (V : bk_Val) (H : Heap) (locs : List Loc) (ls : Array Slot), I Y V → bk_H G Y V s.heap H locs → lv_has ls 8 [(0, .ref b), (1, .ref a1), (2, .ref a2), (3, .ref a3), (4, .int (Int32.ofNat (6 * j)))] → W p l e room_1 s m args below meth c H locs (cells + 8) (slots + 400) Q (F0 m 2773 ls [])) : W p l e room_1 s m args below meth c H locs cells slots Q (F0 m 1164 ls []) := by
  have hx := C.1
  have hb := C.2.1
  obtain ⟨out, hq1, he, ho, hS⟩ := hS
  refine lv_aload_n hx hb dL_law_1164 rfl (lv_at hl 1 rfl) ?_
  refine bk_sc 1 C hH hX hbl hbA hj hL (lv_at hl 0 rfl) (lv_at hl 4 rfl) (by decide) (by decide) dL_law_1165 dL_law_1166 dL_law_1168 dL_law_1169 dL_law_1170 ?_
  refine lv_aload_n hx hb dL_law_1171 rfl (lv_at hl 3 rfl) ?_
  refine bk_callSh (rest := []) (As := [.ref a1, .int ((xs (6 * j + 1))), .ref a3]) C hH hl.1 (h_L_line hst hq1 hs1 he ho) mh_L_line st_L_line lw_RL_196 rfl ⟨rfl, rfl⟩ ⟨by decide, by decide⟩ rfl (Nat.le_of_ble_eq_true rfl) dL_law_1172 ⟨by have := hRc; show _ ≤ 601024; omega, by have := hRs; show _ ≤ 7293034; omega⟩ (fun k9 Y1 V1 H locs hk9 hH => ?_)
  obtain ⟨hs2, r2, V2, hq2, hs3, hq3, hs4, hr, hI⟩ := hS _ _ _ hk9
  refine lv_istore (lv' := [(5, .int k9), (0, .ref b), (1, .ref a1), (2, .ref a2), (3, .ref a3), (4, .int (Int32.ofNat (6 * j)))]) hx hb dL_law_1175 hl (by decide) rfl (fun ls hl => ?_)
  refine lv_aload_n hx hb dL_law_1177 rfl (lv_at hl 3 rfl) ?_
  refine bk_sc 1 C hH hX hbl hbA hj hL (lv_at hl 1 rfl) (lv_at hl 5 rfl) (by decide) (by decide) dL_law_1178 dL_law_1179 dL_law_1181 dL_law_1182 dL_law_1183 ?_
  refine bk_callV (b := a2) (rest := []) (As := [.int ((xs (6 * j + 1)))]) (ro := some (.int r2)) (Y1 := Y1) (V1 := V2) C hH hl.1 (c_X12_line hq2) mc_X12_line mv_X12_line lk_RL_198 hs2 rfl rfl ⟨rfl, rfl⟩ ⟨by decide, by decide⟩ rfl (Nat.le_of_ble_eq_true rfl) dL_law_1184 ⟨by have := hRc; show _ ≤ 601024; omega, by have := hRs; show _ ≤ 7293034; omega⟩ (fun H locs hH => ?_)
  refine lv_istore (lv' := [(6, .int r2), (5, .int k9), (0, .ref b), (1, .ref a1), (2, .ref a2), (3, .ref a3), (4, .int (Int32.ofNat (6 * j)))]) hx hb dL_law_1187 hl (by decide) rfl (fun ls hl => ?_)
  refine lv_aload_n hx hb dL_law_1189 rfl (lv_at hl 4 rfl) ?_
  refine bk_callV (b := a2) (rest := []) (As := []) (ro := some (.int k9)) (Y1 := Y1) (V1 := V2) C hH hl.1 (c_X12_thrown hq3) mc_X12_thrown mv_X12_thrown lk_RL_130 hs3 rfl rfl ⟨rfl, rfl⟩ ⟨by decide, by decide⟩ rfl (Nat.le_of_ble_eq_true rfl) dL_law_1190 ⟨by have := hRc; show _ ≤ 601024; omega, by have := hRs; show _ ≤ 7293034; omega⟩ (fun H locs hH => ?_)
  refine lv_iload hx hb dL_law_1193 (lv_at hl 1 rfl) ?_
  refine W.widen (k := cells + 8) (n := slots + 400) (by omega) (by omega) ?_
  refine lv_icmp_eq (tgt := 1200) hx hb dL_law_1195 (by decide) (fun _ => ?_) (fun hc => absurd rfl hc)
  refine lv_iload hx hb dL_law_1200 (lv_at hl 1 rfl) ?_
  refine lv_if_ne (tgt := 1217) hx hb dL_law_1202 (by decide) (fun _ => ?_) (fun hc => ?_)
  · skip
    refine lv_goto (tgt := 2773) hx hb dL_law_1217 (by decide) ?_
    exact kk _ _ H locs ls hI hH (lv_sub hl [2, 3, 4, 5, 6] rfl)
  · have hk0 : k9 = 0 := hc
    refine lv_aload_n hx hb dL_law_1205 rfl (lv_at hl 5 rfl) ?_
    refine lv_iconst (v := 0) hx hb dL_law_1206 (by decide) ?_
    refine bk_lald C hH hs4 bk_in01 dL_law_1207 ?_
    refine lv_iload hx hb dL_law_1208 (lv_at hl 0 rfl) ?_
    refine lv_i2l hx hb dL_law_1210 rfl ?_
    refine W.lcmp hx hb dL_law_1211 ?_
    refine lv_if_eq (tgt := 1217) hx hb dL_law_1212 (by decide) (fun _ => ?_) (fun hc => absurd (bk_cmp0 (hr hk0)) hc)
    refine lv_goto (tgt := 2773) hx hb dL_law_1217 (by decide) ?_
    exact kk _ _ H locs ls hI hH (lv_sub hl [2, 3, 4, 5, 6] rfl)
set_option maxRecDepth 100000 in
set_option maxHeartbeats 4000000 in
theorem arm_20 (C : bk_C G p s m args meth c cL_law RL 8 (some FieldType.boolean)) (hst : l.stackTraces = false) (hX : va_X b L xs s s.heap) (hbl : b < s.heap.size) (hbA : ¬ bk_A G b) (hj : 6 * j + 6 ≤ L) (hL : L ≤ 3072) (hRc : cells + 8 ≤ 601024) (hRs : slots + 400 ≤ 7293034) (hl : lv_has ls 8 [(0, .ref b), (1, .ref a1), (2, .ref a2), (3, .ref a3), (4, .int (Int32.ofNat (6 * j)))]) (hH : bk_H G Y V s.heap H locs) (hs1 : bk_sh Y a1 = (1, 10)) (hS : bk_st20 N a1 a2 a3 Y V (xs (6 * j + 1)) (xs (6 * j + 2)) (xs (6 * j + 3)) (xs (6 * j + 4)) (xs (6 * j + 5)) I) (kk : ∀ (Y : bk_Lay) (V : bk_Val) (H : Heap) (locs : List Loc) (ls : Array Slot), I Y V → bk_H G Y V s.heap H locs → lv_has ls 8 [(0, .ref b), (1, .ref a1), (2, .ref a2), (3, .ref a3), (4, .int (Int32.ofNat (6 * j)))] → W p l e room_1 s m args below meth c H locs (cells + 8) (slots + 400) Q (F0 m 2773 ls [])) : W p l e room_1 s m args below meth c H locs cells slots Q (F0 m 1220 ls []) := by
  have hx := C.1
  have hb := C.2.1
  obtain ⟨out, hq1, he, ho, hS⟩ := hS
  refine lv_aload_n hx hb dL_law_1220 rfl (lv_at hl 1 rfl) ?_
  refine bk_sc 1 C hH hX hbl hbA hj hL (lv_at hl 0 rfl) (lv_at hl 4 rfl) (by decide) (by decide) dL_law_1221 dL_law_1222 dL_law_1224 dL_law_1225 dL_law_1226 ?_
  refine bk_sc 2 C hH hX hbl hbA hj hL (lv_at hl 0 rfl) (lv_at hl 4 rfl) (by decide) (by decide) dL_law_1227 dL_law_1228 dL_law_1230 dL_law_1231 dL_law_1232 ?_
  refine bk_sc 3 C hH hX hbl hbA hj hL (lv_at hl 0 rfl) (lv_at hl 4 rfl) (by decide) (by decide) dL_law_1233 dL_law_1234 dL_law_1236 dL_law_1237 dL_law_1238 ?_
  refine bk_sc 4 C hH hX hbl hbA hj hL (lv_at hl 0 rfl) (lv_at hl 4 rfl) (by decide) (by decide) dL_law_1239 dL_law_1240 dL_law_1242 dL_law_1243 dL_law_1244 ?_
  refine lv_aload_n hx hb dL_law_1245 rfl (lv_at hl 3 rfl) ?_
  refine bk_callSh (rest := []) (As := [.ref a1, .int ((xs (6 * j + 1))), .int ((xs (6 * j + 2))), .int ((xs (6 * j + 3))), .int ((xs (6 * j + 4))), .ref a3]) C hH hl.1 (h_L_holds hst hq1 hs1 he ho) mh_L_holds st_L_holds lw_RL_199 rfl ⟨rfl, rfl⟩ ⟨by decide, by decide⟩ rfl (Nat.le_of_ble_eq_true rfl) dL_law_1246 ⟨by have := hRc; show _ ≤ 601024; omega, by have := hRs; show _ ≤ 7293034; omega⟩ (fun k9 Y1 V1 H locs hk9 hH => ?_)
  obtain ⟨hs2, r2, V2, hq2, hs3, hq3, hs4, hr, hI⟩ := hS _ _ _ hk9
  refine lv_istore (lv' := [(5, .int k9), (0, .ref b), (1, .ref a1), (2, .ref a2), (3, .ref a3), (4, .int (Int32.ofNat (6 * j)))]) hx hb dL_law_1249 hl (by decide) rfl (fun ls hl => ?_)
  refine lv_aload_n hx hb dL_law_1251 rfl (lv_at hl 3 rfl) ?_
  refine bk_sc 1 C hH hX hbl hbA hj hL (lv_at hl 1 rfl) (lv_at hl 5 rfl) (by decide) (by decide) dL_law_1252 dL_law_1253 dL_law_1255 dL_law_1256 dL_law_1257 ?_
  refine bk_sc 2 C hH hX hbl hbA hj hL (lv_at hl 1 rfl) (lv_at hl 5 rfl) (by decide) (by decide) dL_law_1258 dL_law_1259 dL_law_1261 dL_law_1262 dL_law_1263 ?_
  refine bk_sc 3 C hH hX hbl hbA hj hL (lv_at hl 1 rfl) (lv_at hl 5 rfl) (by decide) (by decide) dL_law_1264 dL_law_1265 dL_law_1267 dL_law_1268 dL_law_1269 ?_
  refine bk_sc 4 C hH hX hbl hbA hj hL (lv_at hl 1 rfl) (lv_at hl 5 rfl) (by decide) (by decide) dL_law_1270 dL_law_1271 dL_law_1273 dL_law_1274 dL_law_1275 ?_
  refine bk_callV (b := a2) (rest := []) (As := [.int ((xs (6 * j + 1))), .int ((xs (6 * j + 2))), .int ((xs (6 * j + 3))), .int ((xs (6 * j + 4)))]) (ro := some (.int r2)) (Y1 := Y1) (V1 := V2) C hH hl.1 (c_X12_holds hq2) mc_X12_holds mv_X12_holds lk_RL_202 hs2 rfl rfl ⟨rfl, rfl⟩ ⟨by decide, by decide⟩ rfl (Nat.le_of_ble_eq_true rfl) dL_law_1276 ⟨by have := hRc; show _ ≤ 601024; omega, by have := hRs; show _ ≤ 7293034; omega⟩ (fun H locs hH => ?_)
  refine lv_istore (lv' := [(6, .int r2), (5, .int k9), (0, .ref b), (1, .ref a1), (2, .ref a2), (3, .ref a3), (4, .int (Int32.ofNat (6 * j)))]) hx hb dL_law_1279 hl (by decide) rfl (fun ls hl => ?_)
  refine lv_aload_n hx hb dL_law_1281 rfl (lv_at hl 4 rfl) ?_
  refine bk_callV (b := a2) (rest := []) (As := []) (ro := some (.int k9)) (Y1 := Y1) (V1 := V2) C hH hl.1 (c_X12_thrown hq3) mc_X12_thrown mv_X12_thrown lk_RL_130 hs3 rfl rfl ⟨rfl, rfl⟩ ⟨by decide, by decide⟩ rfl (Nat.le_of_ble_eq_true rfl) dL_law_1282 ⟨by have := hRc; show _ ≤ 601024; omega, by have := hRs; show _ ≤ 7293034; omega⟩ (fun H locs hH => ?_)
  refine lv_iload hx hb dL_law_1285 (lv_at hl 1 rfl) ?_
  refine W.widen (k := cells + 8) (n := slots + 400) (by omega) (by omega) ?_
  refine lv_icmp_eq (tgt := 1292) hx hb dL_law_1287 (by decide) (fun _ => ?_) (fun hc => absurd rfl hc)
  refine lv_iload hx hb dL_law_1292 (lv_at hl 1 rfl) ?_
  refine lv_if_ne (tgt := 1309) hx hb dL_law_1294 (by decide) (fun _ => ?_) (fun hc => ?_)
  · skip
    refine lv_goto (tgt := 2773) hx hb dL_law_1309 (by decide) ?_
    exact kk _ _ H locs ls hI hH (lv_sub hl [2, 3, 4, 5, 6] rfl)
  · have hk0 : k9 = 0 := hc
    refine lv_aload_n hx hb dL_law_1297 rfl (lv_at hl 5 rfl) ?_
    refine lv_iconst (v := 0) hx hb dL_law_1298 (by decide) ?_
    refine bk_lald C hH hs4 bk_in01 dL_law_1299 ?_
    refine lv_iload hx hb dL_law_1300 (lv_at hl 0 rfl) ?_
    refine lv_i2l hx hb dL_law_1302 rfl ?_
    refine W.lcmp hx hb dL_law_1303 ?_
    refine lv_if_eq (tgt := 1309) hx hb dL_law_1304 (by decide) (fun _ => ?_) (fun hc => absurd (bk_cmp0 (hr hk0)) hc)
    refine lv_goto (tgt := 2773) hx hb dL_law_1309 (by decide) ?_
    exact kk _ _ H locs ls hI hH (lv_sub hl [2, 3, 4, 5, 6] rfl)
set_option maxRecDepth 100000 in
set_option maxHeartbeats 4000000 in
theorem arm_21 (C : bk_C G p s m args meth c cL_law RL 8 (some FieldType.boolean)) (hst : l.stackTraces = false) (hX : va_X b L xs s s.heap) (hbl : b < s.heap.size) (hbA : ¬ bk_A G b) (hj : 6 * j + 6 ≤ L) (hL : L ≤ 3072) (hRc : cells + 8 ≤ 601024) (hRs : slots + 400 ≤ 7293034) (hl : lv_has ls 8 [(0, .ref b), (1, .ref a1), (2, .ref a2), (3, .ref a3), (4, .int (Int32.ofNat (6 * j)))]) (hH : bk_H G Y V s.heap H locs) (hs1 : bk_sh Y a1 = (1, 10)) (hS : bk_st21 N a1 a2 a3 Y V (xs (6 * j + 1)) (xs (6 * j + 2)) (xs (6 * j + 3)) (xs (6 * j + 4)) (xs (6 * j + 5)) I) (kk : ∀ (Y : bk_Lay) (V : bk_Val) (H : Heap) (locs : List Loc) (ls : Array Slot), I Y V → bk_H G Y V s.heap H locs → lv_has ls 8 [(0, .ref b), (1, .ref a1), (2, .ref a2), (3, .ref a3), (4, .int (Int32.ofNat (6 * j)))] → W p l e room_1 s m args below meth c H locs (cells + 8) (slots + 400) Q (F0 m 2773 ls [])) : W p l e room_1 s m args below meth c H locs cells slots Q (F0 m 1312 ls []) := by
  have hx := C.1
  have hb := C.2.1
  obtain ⟨out, hq1, he, ho, hS⟩ := hS
  refine lv_aload_n hx hb dL_law_1312 rfl (lv_at hl 1 rfl) ?_
  refine bk_sc 1 C hH hX hbl hbA hj hL (lv_at hl 0 rfl) (lv_at hl 4 rfl) (by decide) (by decide) dL_law_1313 dL_law_1314 dL_law_1316 dL_law_1317 dL_law_1318 ?_
  refine bk_sc 2 C hH hX hbl hbA hj hL (lv_at hl 0 rfl) (lv_at hl 4 rfl) (by decide) (by decide) dL_law_1319 dL_law_1320 dL_law_1322 dL_law_1323 dL_law_1324 ?_
  refine bk_sc 3 C hH hX hbl hbA hj hL (lv_at hl 0 rfl) (lv_at hl 4 rfl) (by decide) (by decide) dL_law_1325 dL_law_1326 dL_law_1328 dL_law_1329 dL_law_1330 ?_
  refine bk_sc 4 C hH hX hbl hbA hj hL (lv_at hl 0 rfl) (lv_at hl 4 rfl) (by decide) (by decide) dL_law_1331 dL_law_1332 dL_law_1334 dL_law_1335 dL_law_1336 ?_
  refine lv_aload_n hx hb dL_law_1337 rfl (lv_at hl 3 rfl) ?_
  refine bk_callSh (rest := []) (As := [.ref a1, .int ((xs (6 * j + 1))), .int ((xs (6 * j + 2))), .int ((xs (6 * j + 3))), .int ((xs (6 * j + 4))), .ref a3]) C hH hl.1 (h_L_glue hst hq1 hs1 he ho) mh_L_glue st_L_glue lw_RL_203 rfl ⟨rfl, rfl⟩ ⟨by decide, by decide⟩ rfl (Nat.le_of_ble_eq_true rfl) dL_law_1338 ⟨by have := hRc; show _ ≤ 601024; omega, by have := hRs; show _ ≤ 7293034; omega⟩ (fun k9 Y1 V1 H locs hk9 hH => ?_)
  obtain ⟨hs2, r2, V2, hq2, hs3, hq3, hs4, hr, hI⟩ := hS _ _ _ hk9
  refine lv_istore (lv' := [(5, .int k9), (0, .ref b), (1, .ref a1), (2, .ref a2), (3, .ref a3), (4, .int (Int32.ofNat (6 * j)))]) hx hb dL_law_1341 hl (by decide) rfl (fun ls hl => ?_)
  refine lv_aload_n hx hb dL_law_1343 rfl (lv_at hl 3 rfl) ?_
  refine bk_sc 1 C hH hX hbl hbA hj hL (lv_at hl 1 rfl) (lv_at hl 5 rfl) (by decide) (by decide) dL_law_1344 dL_law_1345 dL_law_1347 dL_law_1348 dL_law_1349 ?_
  refine bk_sc 2 C hH hX hbl hbA hj hL (lv_at hl 1 rfl) (lv_at hl 5 rfl) (by decide) (by decide) dL_law_1350 dL_law_1351 dL_law_1353 dL_law_1354 dL_law_1355 ?_
  refine bk_sc 3 C hH hX hbl hbA hj hL (lv_at hl 1 rfl) (lv_at hl 5 rfl) (by decide) (by decide) dL_law_1356 dL_law_1357 dL_law_1359 dL_law_1360 dL_law_1361 ?_
  refine bk_sc 4 C hH hX hbl hbA hj hL (lv_at hl 1 rfl) (lv_at hl 5 rfl) (by decide) (by decide) dL_law_1362 dL_law_1363 dL_law_1365 dL_law_1366 dL_law_1367 ?_
  refine bk_callV (b := a2) (rest := []) (As := [.int ((xs (6 * j + 1))), .int ((xs (6 * j + 2))), .int ((xs (6 * j + 3))), .int ((xs (6 * j + 4)))]) (ro := some (.int r2)) (Y1 := Y1) (V1 := V2) C hH hl.1 (c_X12_glue hq2) mc_X12_glue mv_X12_glue lk_RL_205 hs2 rfl rfl ⟨rfl, rfl⟩ ⟨by decide, by decide⟩ rfl (Nat.le_of_ble_eq_true rfl) dL_law_1368 ⟨by have := hRc; show _ ≤ 601024; omega, by have := hRs; show _ ≤ 7293034; omega⟩ (fun H locs hH => ?_)
  refine lv_istore (lv' := [(6, .int r2), (5, .int k9), (0, .ref b), (1, .ref a1), (2, .ref a2), (3, .ref a3), (4, .int (Int32.ofNat (6 * j)))]) hx hb dL_law_1371 hl (by decide) rfl (fun ls hl => ?_)
  refine lv_aload_n hx hb dL_law_1373 rfl (lv_at hl 4 rfl) ?_
  refine bk_callV (b := a2) (rest := []) (As := []) (ro := some (.int k9)) (Y1 := Y1) (V1 := V2) C hH hl.1 (c_X12_thrown hq3) mc_X12_thrown mv_X12_thrown lk_RL_130 hs3 rfl rfl ⟨rfl, rfl⟩ ⟨by decide, by decide⟩ rfl (Nat.le_of_ble_eq_true rfl) dL_law_1374 ⟨by have := hRc; show _ ≤ 601024; omega, by have := hRs; show _ ≤ 7293034; omega⟩ (fun H locs hH => ?_)
  refine lv_iload hx hb dL_law_1377 (lv_at hl 1 rfl) ?_
  refine W.widen (k := cells + 8) (n := slots + 400) (by omega) (by omega) ?_
  refine lv_icmp_eq (tgt := 1384) hx hb dL_law_1379 (by decide) (fun _ => ?_) (fun hc => absurd rfl hc)
  refine lv_iload hx hb dL_law_1384 (lv_at hl 1 rfl) ?_
  refine lv_if_ne (tgt := 1401) hx hb dL_law_1386 (by decide) (fun _ => ?_) (fun hc => ?_)
  · skip
    refine lv_goto (tgt := 2773) hx hb dL_law_1401 (by decide) ?_
    exact kk _ _ H locs ls hI hH (lv_sub hl [2, 3, 4, 5, 6] rfl)
  · have hk0 : k9 = 0 := hc
    refine lv_aload_n hx hb dL_law_1389 rfl (lv_at hl 5 rfl) ?_
    refine lv_iconst (v := 0) hx hb dL_law_1390 (by decide) ?_
    refine bk_lald C hH hs4 bk_in01 dL_law_1391 ?_
    refine lv_iload hx hb dL_law_1392 (lv_at hl 0 rfl) ?_
    refine lv_i2l hx hb dL_law_1394 rfl ?_
    refine W.lcmp hx hb dL_law_1395 ?_
    refine lv_if_eq (tgt := 1401) hx hb dL_law_1396 (by decide) (fun _ => ?_) (fun hc => absurd (bk_cmp0 (hr hk0)) hc)
    refine lv_goto (tgt := 2773) hx hb dL_law_1401 (by decide) ?_
    exact kk _ _ H locs ls hI hH (lv_sub hl [2, 3, 4, 5, 6] rfl)
set_option maxRecDepth 100000 in
set_option maxHeartbeats 4000000 in
theorem arm_22 (C : bk_C G p s m args meth c cL_law RL 8 (some FieldType.boolean)) (hst : l.stackTraces = false) (hX : va_X b L xs s s.heap) (hbl : b < s.heap.size) (hbA : ¬ bk_A G b) (hj : 6 * j + 6 ≤ L) (hL : L ≤ 3072) (hRc : cells + 8 ≤ 601024) (hRs : slots + 400 ≤ 7293034) (hl : lv_has ls 8 [(0, .ref b), (1, .ref a1), (2, .ref a2), (3, .ref a3), (4, .int (Int32.ofNat (6 * j)))]) (hH : bk_H G Y V s.heap H locs) (hs1 : bk_sh Y a1 = (1, 10)) (hS : bk_st22 N a1 a2 a3 Y V (xs (6 * j + 1)) (xs (6 * j + 2)) (xs (6 * j + 3)) (xs (6 * j + 4)) (xs (6 * j + 5)) I) (kk : ∀ (Y : bk_Lay) (V : bk_Val) (H : Heap) (locs : List Loc) (ls : Array Slot), I Y V → bk_H G Y V s.heap H locs → lv_has ls 8 [(0, .ref b), (1, .ref a1), (2, .ref a2), (3, .ref a3), (4, .int (Int32.ofNat (6 * j)))] → W p l e room_1 s m args below meth c H locs (cells + 8) (slots + 400) Q (F0 m 2773 ls [])) : W p l e room_1 s m args below meth c H locs cells slots Q (F0 m 1404 ls []) := by
  have hx := C.1
  have hb := C.2.1
  obtain ⟨out, hq1, he, ho, hS⟩ := hS
  refine lv_aload_n hx hb dL_law_1404 rfl (lv_at hl 1 rfl) ?_
  refine bk_sc 1 C hH hX hbl hbA hj hL (lv_at hl 0 rfl) (lv_at hl 4 rfl) (by decide) (by decide) dL_law_1405 dL_law_1406 dL_law_1408 dL_law_1409 dL_law_1410 ?_
  refine bk_sc 2 C hH hX hbl hbA hj hL (lv_at hl 0 rfl) (lv_at hl 4 rfl) (by decide) (by decide) dL_law_1411 dL_law_1412 dL_law_1414 dL_law_1415 dL_law_1416 ?_
  refine bk_sc 3 C hH hX hbl hbA hj hL (lv_at hl 0 rfl) (lv_at hl 4 rfl) (by decide) (by decide) dL_law_1417 dL_law_1418 dL_law_1420 dL_law_1421 dL_law_1422 ?_
  refine bk_sc 4 C hH hX hbl hbA hj hL (lv_at hl 0 rfl) (lv_at hl 4 rfl) (by decide) (by decide) dL_law_1423 dL_law_1424 dL_law_1426 dL_law_1427 dL_law_1428 ?_
  refine bk_sc 5 C hH hX hbl hbA hj hL (lv_at hl 0 rfl) (lv_at hl 4 rfl) (by decide) (by decide) dL_law_1429 dL_law_1430 dL_law_1432 dL_law_1433 dL_law_1434 ?_
  refine lv_aload_n hx hb dL_law_1435 rfl (lv_at hl 3 rfl) ?_
  refine bk_callSh (rest := []) (As := [.ref a1, .int ((xs (6 * j + 1))), .int ((xs (6 * j + 2))), .int ((xs (6 * j + 3))), .int ((xs (6 * j + 4))), .int ((xs (6 * j + 5))), .ref a3]) C hH hl.1 (h_L_patch hst hq1 hs1 he ho) mh_L_patch st_L_patch lw_RL_206 rfl ⟨rfl, rfl⟩ ⟨by decide, by decide⟩ rfl (Nat.le_of_ble_eq_true rfl) dL_law_1436 ⟨by have := hRc; show _ ≤ 601024; omega, by have := hRs; show _ ≤ 7293034; omega⟩ (fun k9 Y1 V1 H locs hk9 hH => ?_)
  obtain ⟨hs2, r2, V2, hq2, hs3, hq3, hs4, hr, hI⟩ := hS _ _ _ hk9
  refine lv_istore (lv' := [(5, .int k9), (0, .ref b), (1, .ref a1), (2, .ref a2), (3, .ref a3), (4, .int (Int32.ofNat (6 * j)))]) hx hb dL_law_1439 hl (by decide) rfl (fun ls hl => ?_)
  refine lv_aload_n hx hb dL_law_1441 rfl (lv_at hl 3 rfl) ?_
  refine bk_sc 1 C hH hX hbl hbA hj hL (lv_at hl 1 rfl) (lv_at hl 5 rfl) (by decide) (by decide) dL_law_1442 dL_law_1443 dL_law_1445 dL_law_1446 dL_law_1447 ?_
  refine bk_sc 2 C hH hX hbl hbA hj hL (lv_at hl 1 rfl) (lv_at hl 5 rfl) (by decide) (by decide) dL_law_1448 dL_law_1449 dL_law_1451 dL_law_1452 dL_law_1453 ?_
  refine bk_sc 3 C hH hX hbl hbA hj hL (lv_at hl 1 rfl) (lv_at hl 5 rfl) (by decide) (by decide) dL_law_1454 dL_law_1455 dL_law_1457 dL_law_1458 dL_law_1459 ?_
  refine bk_sc 4 C hH hX hbl hbA hj hL (lv_at hl 1 rfl) (lv_at hl 5 rfl) (by decide) (by decide) dL_law_1460 dL_law_1461 dL_law_1463 dL_law_1464 dL_law_1465 ?_
  refine bk_sc 5 C hH hX hbl hbA hj hL (lv_at hl 1 rfl) (lv_at hl 5 rfl) (by decide) (by decide) dL_law_1466 dL_law_1467 dL_law_1469 dL_law_1470 dL_law_1471 ?_
  refine bk_callV (b := a2) (rest := []) (As := [.int ((xs (6 * j + 1))), .int ((xs (6 * j + 2))), .int ((xs (6 * j + 3))), .int ((xs (6 * j + 4))), .int ((xs (6 * j + 5)))]) (ro := some (.int r2)) (Y1 := Y1) (V1 := V2) C hH hl.1 (c_X12_patch hq2) mc_X12_patch mv_X12_patch lk_RL_209 hs2 rfl rfl ⟨rfl, rfl⟩ ⟨by decide, by decide⟩ rfl (Nat.le_of_ble_eq_true rfl) dL_law_1472 ⟨by have := hRc; show _ ≤ 601024; omega, by have := hRs; show _ ≤ 7293034; omega⟩ (fun H locs hH => ?_)
  refine lv_istore (lv' := [(6, .int r2), (5, .int k9), (0, .ref b), (1, .ref a1), (2, .ref a2), (3, .ref a3), (4, .int (Int32.ofNat (6 * j)))]) hx hb dL_law_1475 hl (by decide) rfl (fun ls hl => ?_)
  refine lv_aload_n hx hb dL_law_1477 rfl (lv_at hl 4 rfl) ?_
  refine bk_callV (b := a2) (rest := []) (As := []) (ro := some (.int k9)) (Y1 := Y1) (V1 := V2) C hH hl.1 (c_X12_thrown hq3) mc_X12_thrown mv_X12_thrown lk_RL_130 hs3 rfl rfl ⟨rfl, rfl⟩ ⟨by decide, by decide⟩ rfl (Nat.le_of_ble_eq_true rfl) dL_law_1478 ⟨by have := hRc; show _ ≤ 601024; omega, by have := hRs; show _ ≤ 7293034; omega⟩ (fun H locs hH => ?_)
  refine lv_iload hx hb dL_law_1481 (lv_at hl 1 rfl) ?_
  refine W.widen (k := cells + 8) (n := slots + 400) (by omega) (by omega) ?_
  refine lv_icmp_eq (tgt := 1488) hx hb dL_law_1483 (by decide) (fun _ => ?_) (fun hc => absurd rfl hc)
  refine lv_iload hx hb dL_law_1488 (lv_at hl 1 rfl) ?_
  refine lv_if_ne (tgt := 1512) hx hb dL_law_1490 (by decide) (fun _ => ?_) (fun hc => ?_)
  · skip
    refine lv_goto (tgt := 2773) hx hb dL_law_1512 (by decide) ?_
    exact kk _ _ H locs ls hI hH (lv_sub hl [2, 3, 4, 5, 6] rfl)
  · have hk0 : k9 = 0 := hc
    refine lv_aload_n hx hb dL_law_1493 rfl (lv_at hl 5 rfl) ?_
    refine lv_iconst (v := 0) hx hb dL_law_1494 (by decide) ?_
    refine bk_lald C hH hs4 bk_in01 dL_law_1495 ?_
    refine lv_iload hx hb dL_law_1496 (lv_at hl 0 rfl) ?_
    refine bk_nbl hx hb dL_law_1498 dL_law_1501 dL_law_1502 dL_law_1505 ?_
    refine W.lcmp hx hb dL_law_1506 ?_
    refine lv_if_eq (tgt := 1512) hx hb dL_law_1507 (by decide) (fun _ => ?_) (fun hc => absurd (bk_cmp0 (hr hk0)) hc)
    refine lv_goto (tgt := 2773) hx hb dL_law_1512 (by decide) ?_
    exact kk _ _ H locs ls hI hH (lv_sub hl [2, 3, 4, 5, 6] rfl)
set_option maxRecDepth 100000 in
set_option maxHeartbeats 4000000 in
theorem arm_23 (C : bk_C G p s m args meth c cL_law RL 8 (some FieldType.boolean)) (hst : l.stackTraces = false) (hX : va_X b L xs s s.heap) (hbl : b < s.heap.size) (hbA : ¬ bk_A G b) (hj : 6 * j + 6 ≤ L) (hL : L ≤ 3072) (hRc : cells + 8 ≤ 601024) (hRs : slots + 400 ≤ 7293034) (hl : lv_has ls 8 [(0, .ref b), (1, .ref a1), (2, .ref a2), (3, .ref a3), (4, .int (Int32.ofNat (6 * j)))]) (hH : bk_H G Y V s.heap H locs) (hs1 : bk_sh Y a1 = (1, 10)) (hS : bk_st23 N a1 a2 a3 Y V (xs (6 * j + 1)) (xs (6 * j + 2)) (xs (6 * j + 3)) (xs (6 * j + 4)) (xs (6 * j + 5)) I) (kk : ∀ (Y : bk_Lay) (V : bk_Val) (H : Heap) (locs : List Loc) (ls : Array Slot), I Y V → bk_H G Y V s.heap H locs → lv_has ls 8 [(0, .ref b), (1, .ref a1), (2, .ref a2), (3, .ref a3), (4, .int (Int32.ofNat (6 * j)))] → W p l e room_1 s m args below meth c H locs (cells + 8) (slots + 400) Q (F0 m 2773 ls [])) : W p l e room_1 s m args below meth c H locs cells slots Q (F0 m 1515 ls []) := by
  have hx := C.1
  have hb := C.2.1
  obtain ⟨out, hq1, he, ho, hS⟩ := hS
  refine lv_aload_n hx hb dL_law_1515 rfl (lv_at hl 1 rfl) ?_
  refine bk_sc 1 C hH hX hbl hbA hj hL (lv_at hl 0 rfl) (lv_at hl 4 rfl) (by decide) (by decide) dL_law_1516 dL_law_1517 dL_law_1519 dL_law_1520 dL_law_1521 ?_
  refine lv_aload_n hx hb dL_law_1522 rfl (lv_at hl 3 rfl) ?_
  refine bk_callSh (rest := []) (As := [.ref a1, .int ((xs (6 * j + 1))), .ref a3]) C hH hl.1 (h_L_feel hst hq1 hs1 he ho) mh_L_feel st_L_feel lw_RL_210 rfl ⟨rfl, rfl⟩ ⟨by decide, by decide⟩ rfl (Nat.le_of_ble_eq_true rfl) dL_law_1523 ⟨by have := hRc; show _ ≤ 601024; omega, by have := hRs; show _ ≤ 7293034; omega⟩ (fun k9 Y1 V1 H locs hk9 hH => ?_)
  obtain ⟨hs2, r2, V2, hq2, hs3, hq3, hs4, hr, hI⟩ := hS _ _ _ hk9
  refine lv_istore (lv' := [(5, .int k9), (0, .ref b), (1, .ref a1), (2, .ref a2), (3, .ref a3), (4, .int (Int32.ofNat (6 * j)))]) hx hb dL_law_1526 hl (by decide) rfl (fun ls hl => ?_)
  refine lv_aload_n hx hb dL_law_1528 rfl (lv_at hl 3 rfl) ?_
  refine bk_sc 1 C hH hX hbl hbA hj hL (lv_at hl 1 rfl) (lv_at hl 5 rfl) (by decide) (by decide) dL_law_1529 dL_law_1530 dL_law_1532 dL_law_1533 dL_law_1534 ?_
  refine bk_callV (b := a2) (rest := []) (As := [.int ((xs (6 * j + 1)))]) (ro := some (.int r2)) (Y1 := Y1) (V1 := V2) C hH hl.1 (c_X12_feel hq2) mc_X12_feel mv_X12_feel lk_RL_212 hs2 rfl rfl ⟨rfl, rfl⟩ ⟨by decide, by decide⟩ rfl (Nat.le_of_ble_eq_true rfl) dL_law_1535 ⟨by have := hRc; show _ ≤ 601024; omega, by have := hRs; show _ ≤ 7293034; omega⟩ (fun H locs hH => ?_)
  refine lv_istore (lv' := [(6, .int r2), (5, .int k9), (0, .ref b), (1, .ref a1), (2, .ref a2), (3, .ref a3), (4, .int (Int32.ofNat (6 * j)))]) hx hb dL_law_1538 hl (by decide) rfl (fun ls hl => ?_)
  refine lv_aload_n hx hb dL_law_1540 rfl (lv_at hl 4 rfl) ?_
  refine bk_callV (b := a2) (rest := []) (As := []) (ro := some (.int k9)) (Y1 := Y1) (V1 := V2) C hH hl.1 (c_X12_thrown hq3) mc_X12_thrown mv_X12_thrown lk_RL_130 hs3 rfl rfl ⟨rfl, rfl⟩ ⟨by decide, by decide⟩ rfl (Nat.le_of_ble_eq_true rfl) dL_law_1541 ⟨by have := hRc; show _ ≤ 601024; omega, by have := hRs; show _ ≤ 7293034; omega⟩ (fun H locs hH => ?_)
  refine lv_iload hx hb dL_law_1544 (lv_at hl 1 rfl) ?_
  refine W.widen (k := cells + 8) (n := slots + 400) (by omega) (by omega) ?_
  refine lv_icmp_eq (tgt := 1551) hx hb dL_law_1546 (by decide) (fun _ => ?_) (fun hc => absurd rfl hc)
  refine lv_iload hx hb dL_law_1551 (lv_at hl 1 rfl) ?_
  refine lv_if_ne (tgt := 1568) hx hb dL_law_1553 (by decide) (fun _ => ?_) (fun hc => ?_)
  · skip
    refine lv_goto (tgt := 2773) hx hb dL_law_1568 (by decide) ?_
    exact kk _ _ H locs ls hI hH (lv_sub hl [2, 3, 4, 5, 6] rfl)
  · have hk0 : k9 = 0 := hc
    refine lv_aload_n hx hb dL_law_1556 rfl (lv_at hl 5 rfl) ?_
    refine lv_iconst (v := 0) hx hb dL_law_1557 (by decide) ?_
    refine bk_lald C hH hs4 bk_in01 dL_law_1558 ?_
    refine lv_iload hx hb dL_law_1559 (lv_at hl 0 rfl) ?_
    refine lv_i2l hx hb dL_law_1561 rfl ?_
    refine W.lcmp hx hb dL_law_1562 ?_
    refine lv_if_eq (tgt := 1568) hx hb dL_law_1563 (by decide) (fun _ => ?_) (fun hc => absurd (bk_cmp0 (hr hk0)) hc)
    refine lv_goto (tgt := 2773) hx hb dL_law_1568 (by decide) ?_
    exact kk _ _ H locs ls hI hH (lv_sub hl [2, 3, 4, 5, 6] rfl)
set_option maxRecDepth 100000 in
set_option maxHeartbeats 4000000 in
theorem arm_24 (C : bk_C G p s m args meth c cL_law RL 8 (some FieldType.boolean)) (hst : l.stackTraces = false) (hX : va_X b L xs s s.heap) (hbl : b < s.heap.size) (hbA : ¬ bk_A G b) (hj : 6 * j + 6 ≤ L) (hL : L ≤ 3072) (hRc : cells + 8 ≤ 601024) (hRs : slots + 400 ≤ 7293034) (hl : lv_has ls 8 [(0, .ref b), (1, .ref a1), (2, .ref a2), (3, .ref a3), (4, .int (Int32.ofNat (6 * j)))]) (hH : bk_H G Y V s.heap H locs) (hs1 : bk_sh Y a1 = (1, 10)) (hS : bk_st24 N a1 a2 a3 Y V (xs (6 * j + 1)) (xs (6 * j + 2)) (xs (6 * j + 3)) (xs (6 * j + 4)) (xs (6 * j + 5)) I) (kk : ∀ (Y : bk_Lay) (V : bk_Val) (H : Heap) (locs : List Loc) (ls : Array Slot), I Y V → bk_H G Y V s.heap H locs → lv_has ls 8 [(0, .ref b), (1, .ref a1), (2, .ref a2), (3, .ref a3), (4, .int (Int32.ofNat (6 * j)))] → W p l e room_1 s m args below meth c H locs (cells + 8) (slots + 400) Q (F0 m 2773 ls [])) : W p l e room_1 s m args below meth c H locs cells slots Q (F0 m 1571 ls []) := by
  have hx := C.1
  have hb := C.2.1
  obtain ⟨out, hq1, he, ho, hS⟩ := hS
  refine lv_aload_n hx hb dL_law_1571 rfl (lv_at hl 1 rfl) ?_
  refine bk_sc 1 C hH hX hbl hbA hj hL (lv_at hl 0 rfl) (lv_at hl 4 rfl) (by decide) (by decide) dL_law_1572 dL_law_1573 dL_law_1575 dL_law_1576 dL_law_1577 ?_
  refine lv_aload_n hx hb dL_law_1578 rfl (lv_at hl 3 rfl) ?_
  refine bk_callSh (rest := []) (As := [.ref a1, .int ((xs (6 * j + 1))), .ref a3]) C hH hl.1 (h_L_fits hst hq1 hs1 he ho) mh_L_fits st_L_fits lw_RL_213 rfl ⟨rfl, rfl⟩ ⟨by decide, by decide⟩ rfl (Nat.le_of_ble_eq_true rfl) dL_law_1579 ⟨by have := hRc; show _ ≤ 601024; omega, by have := hRs; show _ ≤ 7293034; omega⟩ (fun k9 Y1 V1 H locs hk9 hH => ?_)
  obtain ⟨hs2, r2, V2, hq2, hs3, hq3, hs4, hr, hI⟩ := hS _ _ _ hk9
  refine lv_istore (lv' := [(5, .int k9), (0, .ref b), (1, .ref a1), (2, .ref a2), (3, .ref a3), (4, .int (Int32.ofNat (6 * j)))]) hx hb dL_law_1582 hl (by decide) rfl (fun ls hl => ?_)
  refine lv_aload_n hx hb dL_law_1584 rfl (lv_at hl 3 rfl) ?_
  refine bk_sc 1 C hH hX hbl hbA hj hL (lv_at hl 1 rfl) (lv_at hl 5 rfl) (by decide) (by decide) dL_law_1585 dL_law_1586 dL_law_1588 dL_law_1589 dL_law_1590 ?_
  refine bk_callV (b := a2) (rest := []) (As := [.int ((xs (6 * j + 1)))]) (ro := some (.int r2)) (Y1 := Y1) (V1 := V2) C hH hl.1 (c_X12_fits hq2) mc_X12_fits mv_X12_fits lk_RL_215 hs2 rfl rfl ⟨rfl, rfl⟩ ⟨by decide, by decide⟩ rfl (Nat.le_of_ble_eq_true rfl) dL_law_1591 ⟨by have := hRc; show _ ≤ 601024; omega, by have := hRs; show _ ≤ 7293034; omega⟩ (fun H locs hH => ?_)
  refine lv_istore (lv' := [(6, .int r2), (5, .int k9), (0, .ref b), (1, .ref a1), (2, .ref a2), (3, .ref a3), (4, .int (Int32.ofNat (6 * j)))]) hx hb dL_law_1594 hl (by decide) rfl (fun ls hl => ?_)
  refine lv_aload_n hx hb dL_law_1596 rfl (lv_at hl 4 rfl) ?_
  refine bk_callV (b := a2) (rest := []) (As := []) (ro := some (.int k9)) (Y1 := Y1) (V1 := V2) C hH hl.1 (c_X12_thrown hq3) mc_X12_thrown mv_X12_thrown lk_RL_130 hs3 rfl rfl ⟨rfl, rfl⟩ ⟨by decide, by decide⟩ rfl (Nat.le_of_ble_eq_true rfl) dL_law_1597 ⟨by have := hRc; show _ ≤ 601024; omega, by have := hRs; show _ ≤ 7293034; omega⟩ (fun H locs hH => ?_)
  refine lv_iload hx hb dL_law_1600 (lv_at hl 1 rfl) ?_
  refine W.widen (k := cells + 8) (n := slots + 400) (by omega) (by omega) ?_
  refine lv_icmp_eq (tgt := 1607) hx hb dL_law_1602 (by decide) (fun _ => ?_) (fun hc => absurd rfl hc)
  refine lv_iload hx hb dL_law_1607 (lv_at hl 1 rfl) ?_
  refine lv_if_ne (tgt := 1624) hx hb dL_law_1609 (by decide) (fun _ => ?_) (fun hc => ?_)
  · skip
    refine lv_goto (tgt := 2773) hx hb dL_law_1624 (by decide) ?_
    exact kk _ _ H locs ls hI hH (lv_sub hl [2, 3, 4, 5, 6] rfl)
  · have hk0 : k9 = 0 := hc
    refine lv_aload_n hx hb dL_law_1612 rfl (lv_at hl 5 rfl) ?_
    refine lv_iconst (v := 0) hx hb dL_law_1613 (by decide) ?_
    refine bk_lald C hH hs4 bk_in01 dL_law_1614 ?_
    refine lv_iload hx hb dL_law_1615 (lv_at hl 0 rfl) ?_
    refine lv_i2l hx hb dL_law_1617 rfl ?_
    refine W.lcmp hx hb dL_law_1618 ?_
    refine lv_if_eq (tgt := 1624) hx hb dL_law_1619 (by decide) (fun _ => ?_) (fun hc => absurd (bk_cmp0 (hr hk0)) hc)
    refine lv_goto (tgt := 2773) hx hb dL_law_1624 (by decide) ?_
    exact kk _ _ H locs ls hI hH (lv_sub hl [2, 3, 4, 5, 6] rfl)
set_option maxRecDepth 100000 in
set_option maxHeartbeats 4000000 in
theorem arm_25 (C : bk_C G p s m args meth c cL_law RL 8 (some FieldType.boolean)) (hst : l.stackTraces = false) (hX : va_X b L xs s s.heap) (hbl : b < s.heap.size) (hbA : ¬ bk_A G b) (hj : 6 * j + 6 ≤ L) (hL : L ≤ 3072) (hRc : cells + 8 ≤ 601024) (hRs : slots + 400 ≤ 7293034) (hl : lv_has ls 8 [(0, .ref b), (1, .ref a1), (2, .ref a2), (3, .ref a3), (4, .int (Int32.ofNat (6 * j)))]) (hH : bk_H G Y V s.heap H locs) (hs1 : bk_sh Y a1 = (1, 10)) (hS : bk_st25 N a1 a2 a3 Y V (xs (6 * j + 1)) (xs (6 * j + 2)) (xs (6 * j + 3)) (xs (6 * j + 4)) (xs (6 * j + 5)) I) (kk : ∀ (Y : bk_Lay) (V : bk_Val) (H : Heap) (locs : List Loc) (ls : Array Slot), I Y V → bk_H G Y V s.heap H locs → lv_has ls 8 [(0, .ref b), (1, .ref a1), (2, .ref a2), (3, .ref a3), (4, .int (Int32.ofNat (6 * j)))] → W p l e room_1 s m args below meth c H locs (cells + 8) (slots + 400) Q (F0 m 2773 ls [])) : W p l e room_1 s m args below meth c H locs cells slots Q (F0 m 1627 ls []) := by
  have hx := C.1
  have hb := C.2.1
  obtain ⟨out, hq1, he, ho, hS⟩ := hS
  refine lv_aload_n hx hb dL_law_1627 rfl (lv_at hl 1 rfl) ?_
  refine bk_sc 1 C hH hX hbl hbA hj hL (lv_at hl 0 rfl) (lv_at hl 4 rfl) (by decide) (by decide) dL_law_1628 dL_law_1629 dL_law_1631 dL_law_1632 dL_law_1633 ?_
  refine bk_sc 2 C hH hX hbl hbA hj hL (lv_at hl 0 rfl) (lv_at hl 4 rfl) (by decide) (by decide) dL_law_1634 dL_law_1635 dL_law_1637 dL_law_1638 dL_law_1639 ?_
  refine lv_aload_n hx hb dL_law_1640 rfl (lv_at hl 3 rfl) ?_
  refine bk_callSh (rest := []) (As := [.ref a1, .int ((xs (6 * j + 1))), .int ((xs (6 * j + 2))), .ref a3]) C hH hl.1 (h_L_cause hst hq1 hs1 he ho) mh_L_cause st_L_cause lw_RL_216 rfl ⟨rfl, rfl⟩ ⟨by decide, by decide⟩ rfl (Nat.le_of_ble_eq_true rfl) dL_law_1641 ⟨by have := hRc; show _ ≤ 601024; omega, by have := hRs; show _ ≤ 7293034; omega⟩ (fun k9 Y1 V1 H locs hk9 hH => ?_)
  obtain ⟨hs2, r2, V2, hq2, hs3, hq3, hs4, hr, hI⟩ := hS _ _ _ hk9
  refine lv_istore (lv' := [(5, .int k9), (0, .ref b), (1, .ref a1), (2, .ref a2), (3, .ref a3), (4, .int (Int32.ofNat (6 * j)))]) hx hb dL_law_1644 hl (by decide) rfl (fun ls hl => ?_)
  refine lv_aload_n hx hb dL_law_1646 rfl (lv_at hl 3 rfl) ?_
  refine bk_sc 1 C hH hX hbl hbA hj hL (lv_at hl 1 rfl) (lv_at hl 5 rfl) (by decide) (by decide) dL_law_1647 dL_law_1648 dL_law_1650 dL_law_1651 dL_law_1652 ?_
  refine bk_sc 2 C hH hX hbl hbA hj hL (lv_at hl 1 rfl) (lv_at hl 5 rfl) (by decide) (by decide) dL_law_1653 dL_law_1654 dL_law_1656 dL_law_1657 dL_law_1658 ?_
  refine bk_callV (b := a2) (rest := []) (As := [.int ((xs (6 * j + 1))), .int ((xs (6 * j + 2)))]) (ro := some (.int r2)) (Y1 := Y1) (V1 := V2) C hH hl.1 (c_X12_cause hq2) mc_X12_cause mv_X12_cause lk_RL_218 hs2 rfl rfl ⟨rfl, rfl⟩ ⟨by decide, by decide⟩ rfl (Nat.le_of_ble_eq_true rfl) dL_law_1659 ⟨by have := hRc; show _ ≤ 601024; omega, by have := hRs; show _ ≤ 7293034; omega⟩ (fun H locs hH => ?_)
  refine lv_istore (lv' := [(6, .int r2), (5, .int k9), (0, .ref b), (1, .ref a1), (2, .ref a2), (3, .ref a3), (4, .int (Int32.ofNat (6 * j)))]) hx hb dL_law_1662 hl (by decide) rfl (fun ls hl => ?_)
  refine lv_aload_n hx hb dL_law_1664 rfl (lv_at hl 4 rfl) ?_
  refine bk_callV (b := a2) (rest := []) (As := []) (ro := some (.int k9)) (Y1 := Y1) (V1 := V2) C hH hl.1 (c_X12_thrown hq3) mc_X12_thrown mv_X12_thrown lk_RL_130 hs3 rfl rfl ⟨rfl, rfl⟩ ⟨by decide, by decide⟩ rfl (Nat.le_of_ble_eq_true rfl) dL_law_1665 ⟨by have := hRc; show _ ≤ 601024; omega, by have := hRs; show _ ≤ 7293034; omega⟩ (fun H locs hH => ?_)
  refine lv_iload hx hb dL_law_1668 (lv_at hl 1 rfl) ?_
  refine W.widen (k := cells + 8) (n := slots + 400) (by omega) (by omega) ?_
  refine lv_icmp_eq (tgt := 1675) hx hb dL_law_1670 (by decide) (fun _ => ?_) (fun hc => absurd rfl hc)
  refine lv_iload hx hb dL_law_1675 (lv_at hl 1 rfl) ?_
  refine lv_if_ne (tgt := 1692) hx hb dL_law_1677 (by decide) (fun _ => ?_) (fun hc => ?_)
  · skip
    refine lv_goto (tgt := 2773) hx hb dL_law_1692 (by decide) ?_
    exact kk _ _ H locs ls hI hH (lv_sub hl [2, 3, 4, 5, 6] rfl)
  · have hk0 : k9 = 0 := hc
    refine lv_aload_n hx hb dL_law_1680 rfl (lv_at hl 5 rfl) ?_
    refine lv_iconst (v := 0) hx hb dL_law_1681 (by decide) ?_
    refine bk_lald C hH hs4 bk_in01 dL_law_1682 ?_
    refine lv_iload hx hb dL_law_1683 (lv_at hl 0 rfl) ?_
    refine lv_i2l hx hb dL_law_1685 rfl ?_
    refine W.lcmp hx hb dL_law_1686 ?_
    refine lv_if_eq (tgt := 1692) hx hb dL_law_1687 (by decide) (fun _ => ?_) (fun hc => absurd (bk_cmp0 (hr hk0)) hc)
    refine lv_goto (tgt := 2773) hx hb dL_law_1692 (by decide) ?_
    exact kk _ _ H locs ls hI hH (lv_sub hl [2, 3, 4, 5, 6] rfl)
set_option maxRecDepth 100000 in
set_option maxHeartbeats 4000000 in
theorem arm_26 (C : bk_C G p s m args meth c cL_law RL 8 (some FieldType.boolean)) (hst : l.stackTraces = false) (hX : va_X b L xs s s.heap) (hbl : b < s.heap.size) (hbA : ¬ bk_A G b) (hj : 6 * j + 6 ≤ L) (hL : L ≤ 3072) (hRc : cells + 8 ≤ 601024) (hRs : slots + 400 ≤ 7293034) (hl : lv_has ls 8 [(0, .ref b), (1, .ref a1), (2, .ref a2), (3, .ref a3), (4, .int (Int32.ofNat (6 * j)))]) (hH : bk_H G Y V s.heap H locs) (hs1 : bk_sh Y a1 = (1, 10)) (hS : bk_st26 N a1 a2 a3 Y V (xs (6 * j + 1)) (xs (6 * j + 2)) (xs (6 * j + 3)) (xs (6 * j + 4)) (xs (6 * j + 5)) I) (kk : ∀ (Y : bk_Lay) (V : bk_Val) (H : Heap) (locs : List Loc) (ls : Array Slot), I Y V → bk_H G Y V s.heap H locs → lv_has ls 8 [(0, .ref b), (1, .ref a1), (2, .ref a2), (3, .ref a3), (4, .int (Int32.ofNat (6 * j)))] → W p l e room_1 s m args below meth c H locs (cells + 8) (slots + 400) Q (F0 m 2773 ls [])) : W p l e room_1 s m args below meth c H locs cells slots Q (F0 m 1695 ls []) := by
  have hx := C.1
  have hb := C.2.1
  obtain ⟨out, hq1, he, ho, hS⟩ := hS
  refine lv_aload_n hx hb dL_law_1695 rfl (lv_at hl 1 rfl) ?_
  refine bk_sc 1 C hH hX hbl hbA hj hL (lv_at hl 0 rfl) (lv_at hl 4 rfl) (by decide) (by decide) dL_law_1696 dL_law_1697 dL_law_1699 dL_law_1700 dL_law_1701 ?_
  refine bk_sc 2 C hH hX hbl hbA hj hL (lv_at hl 0 rfl) (lv_at hl 4 rfl) (by decide) (by decide) dL_law_1702 dL_law_1703 dL_law_1705 dL_law_1706 dL_law_1707 ?_
  refine lv_aload_n hx hb dL_law_1708 rfl (lv_at hl 3 rfl) ?_
  refine bk_callSh (rest := []) (As := [.ref a1, .int ((xs (6 * j + 1))), .int ((xs (6 * j + 2))), .ref a3]) C hH hl.1 (h_L_ride hst hq1 hs1 he ho) mh_L_ride st_L_ride lw_RL_219 rfl ⟨rfl, rfl⟩ ⟨by decide, by decide⟩ rfl (Nat.le_of_ble_eq_true rfl) dL_law_1709 ⟨by have := hRc; show _ ≤ 601024; omega, by have := hRs; show _ ≤ 7293034; omega⟩ (fun k9 Y1 V1 H locs hk9 hH => ?_)
  obtain ⟨hs2, r2, V2, hq2, hs3, hq3, hs4, hr, hI⟩ := hS _ _ _ hk9
  refine lv_istore (lv' := [(5, .int k9), (0, .ref b), (1, .ref a1), (2, .ref a2), (3, .ref a3), (4, .int (Int32.ofNat (6 * j)))]) hx hb dL_law_1712 hl (by decide) rfl (fun ls hl => ?_)
  refine lv_aload_n hx hb dL_law_1714 rfl (lv_at hl 3 rfl) ?_
  refine bk_sc 1 C hH hX hbl hbA hj hL (lv_at hl 1 rfl) (lv_at hl 5 rfl) (by decide) (by decide) dL_law_1715 dL_law_1716 dL_law_1718 dL_law_1719 dL_law_1720 ?_
  refine bk_sc 2 C hH hX hbl hbA hj hL (lv_at hl 1 rfl) (lv_at hl 5 rfl) (by decide) (by decide) dL_law_1721 dL_law_1722 dL_law_1724 dL_law_1725 dL_law_1726 ?_
  refine bk_callV (b := a2) (rest := []) (As := [.int ((xs (6 * j + 1))), .int ((xs (6 * j + 2)))]) (ro := some (.int r2)) (Y1 := Y1) (V1 := V2) C hH hl.1 (c_X12_ride hq2) mc_X12_ride mv_X12_ride lk_RL_221 hs2 rfl rfl ⟨rfl, rfl⟩ ⟨by decide, by decide⟩ rfl (Nat.le_of_ble_eq_true rfl) dL_law_1727 ⟨by have := hRc; show _ ≤ 601024; omega, by have := hRs; show _ ≤ 7293034; omega⟩ (fun H locs hH => ?_)
  refine lv_istore (lv' := [(6, .int r2), (5, .int k9), (0, .ref b), (1, .ref a1), (2, .ref a2), (3, .ref a3), (4, .int (Int32.ofNat (6 * j)))]) hx hb dL_law_1730 hl (by decide) rfl (fun ls hl => ?_)
  refine lv_aload_n hx hb dL_law_1732 rfl (lv_at hl 4 rfl) ?_
  refine bk_callV (b := a2) (rest := []) (As := []) (ro := some (.int k9)) (Y1 := Y1) (V1 := V2) C hH hl.1 (c_X12_thrown hq3) mc_X12_thrown mv_X12_thrown lk_RL_130 hs3 rfl rfl ⟨rfl, rfl⟩ ⟨by decide, by decide⟩ rfl (Nat.le_of_ble_eq_true rfl) dL_law_1733 ⟨by have := hRc; show _ ≤ 601024; omega, by have := hRs; show _ ≤ 7293034; omega⟩ (fun H locs hH => ?_)
  refine lv_iload hx hb dL_law_1736 (lv_at hl 1 rfl) ?_
  refine W.widen (k := cells + 8) (n := slots + 400) (by omega) (by omega) ?_
  refine lv_icmp_eq (tgt := 1743) hx hb dL_law_1738 (by decide) (fun _ => ?_) (fun hc => absurd rfl hc)
  refine lv_iload hx hb dL_law_1743 (lv_at hl 1 rfl) ?_
  refine lv_if_ne (tgt := 1760) hx hb dL_law_1745 (by decide) (fun _ => ?_) (fun hc => ?_)
  · skip
    refine lv_goto (tgt := 2773) hx hb dL_law_1760 (by decide) ?_
    exact kk _ _ H locs ls hI hH (lv_sub hl [2, 3, 4, 5, 6] rfl)
  · have hk0 : k9 = 0 := hc
    refine lv_aload_n hx hb dL_law_1748 rfl (lv_at hl 5 rfl) ?_
    refine lv_iconst (v := 0) hx hb dL_law_1749 (by decide) ?_
    refine bk_lald C hH hs4 bk_in01 dL_law_1750 ?_
    refine lv_iload hx hb dL_law_1751 (lv_at hl 0 rfl) ?_
    refine lv_i2l hx hb dL_law_1753 rfl ?_
    refine W.lcmp hx hb dL_law_1754 ?_
    refine lv_if_eq (tgt := 1760) hx hb dL_law_1755 (by decide) (fun _ => ?_) (fun hc => absurd (bk_cmp0 (hr hk0)) hc)
    refine lv_goto (tgt := 2773) hx hb dL_law_1760 (by decide) ?_
    exact kk _ _ H locs ls hI hH (lv_sub hl [2, 3, 4, 5, 6] rfl)
set_option maxRecDepth 100000 in
set_option maxHeartbeats 4000000 in
theorem arm_27 (C : bk_C G p s m args meth c cL_law RL 8 (some FieldType.boolean)) (hst : l.stackTraces = false) (hX : va_X b L xs s s.heap) (hbl : b < s.heap.size) (hbA : ¬ bk_A G b) (hj : 6 * j + 6 ≤ L) (hL : L ≤ 3072) (hRc : cells + 8 ≤ 601024) (hRs : slots + 400 ≤ 7293034) (hl : lv_has ls 8 [(0, .ref b), (1, .ref a1), (2, .ref a2), (3, .ref a3), (4, .int (Int32.ofNat (6 * j)))]) (hH : bk_H G Y V s.heap H locs) (hs1 : bk_sh Y a1 = (1, 10)) (hS : bk_st27 N a1 a2 a3 Y V (xs (6 * j + 1)) (xs (6 * j + 2)) (xs (6 * j + 3)) (xs (6 * j + 4)) (xs (6 * j + 5)) I) (kk : ∀ (Y : bk_Lay) (V : bk_Val) (H : Heap) (locs : List Loc) (ls : Array Slot), I Y V → bk_H G Y V s.heap H locs → lv_has ls 8 [(0, .ref b), (1, .ref a1), (2, .ref a2), (3, .ref a3), (4, .int (Int32.ofNat (6 * j)))] → W p l e room_1 s m args below meth c H locs (cells + 8) (slots + 400) Q (F0 m 2773 ls [])) : W p l e room_1 s m args below meth c H locs cells slots Q (F0 m 1763 ls []) := by
  have hx := C.1
  have hb := C.2.1
  obtain ⟨out, hq1, he, ho, hS⟩ := hS
  refine lv_aload_n hx hb dL_law_1763 rfl (lv_at hl 1 rfl) ?_
  refine bk_sc 1 C hH hX hbl hbA hj hL (lv_at hl 0 rfl) (lv_at hl 4 rfl) (by decide) (by decide) dL_law_1764 dL_law_1765 dL_law_1767 dL_law_1768 dL_law_1769 ?_
  refine bk_sc 2 C hH hX hbl hbA hj hL (lv_at hl 0 rfl) (lv_at hl 4 rfl) (by decide) (by decide) dL_law_1770 dL_law_1771 dL_law_1773 dL_law_1774 dL_law_1775 ?_
  refine bk_sc 3 C hH hX hbl hbA hj hL (lv_at hl 0 rfl) (lv_at hl 4 rfl) (by decide) (by decide) dL_law_1776 dL_law_1777 dL_law_1779 dL_law_1780 dL_law_1781 ?_
  refine bk_sc 4 C hH hX hbl hbA hj hL (lv_at hl 0 rfl) (lv_at hl 4 rfl) (by decide) (by decide) dL_law_1782 dL_law_1783 dL_law_1785 dL_law_1786 dL_law_1787 ?_
  refine bk_sc 5 C hH hX hbl hbA hj hL (lv_at hl 0 rfl) (lv_at hl 4 rfl) (by decide) (by decide) dL_law_1788 dL_law_1789 dL_law_1791 dL_law_1792 dL_law_1793 ?_
  refine lv_aload_n hx hb dL_law_1794 rfl (lv_at hl 3 rfl) ?_
  refine bk_callSh (rest := []) (As := [.ref a1, .int ((xs (6 * j + 1))), .int ((xs (6 * j + 2))), .int ((xs (6 * j + 3))), .int ((xs (6 * j + 4))), .int ((xs (6 * j + 5))), .ref a3]) C hH hl.1 (h_L_best hst hq1 hs1 he ho) mh_L_best st_L_best lw_RL_222 rfl ⟨rfl, rfl⟩ ⟨by decide, by decide⟩ rfl (Nat.le_of_ble_eq_true rfl) dL_law_1795 ⟨by have := hRc; show _ ≤ 601024; omega, by have := hRs; show _ ≤ 7293034; omega⟩ (fun k9 Y1 V1 H locs hk9 hH => ?_)
  obtain ⟨hs2, r2, V2, hq2, hs3, hq3, hs4, hr, hI⟩ := hS _ _ _ hk9
  refine lv_istore (lv' := [(5, .int k9), (0, .ref b), (1, .ref a1), (2, .ref a2), (3, .ref a3), (4, .int (Int32.ofNat (6 * j)))]) hx hb dL_law_1798 hl (by decide) rfl (fun ls hl => ?_)
  refine lv_aload_n hx hb dL_law_1800 rfl (lv_at hl 3 rfl) ?_
  refine bk_sc 1 C hH hX hbl hbA hj hL (lv_at hl 1 rfl) (lv_at hl 5 rfl) (by decide) (by decide) dL_law_1801 dL_law_1802 dL_law_1804 dL_law_1805 dL_law_1806 ?_
  refine bk_sc 2 C hH hX hbl hbA hj hL (lv_at hl 1 rfl) (lv_at hl 5 rfl) (by decide) (by decide) dL_law_1807 dL_law_1808 dL_law_1810 dL_law_1811 dL_law_1812 ?_
  refine bk_sc 3 C hH hX hbl hbA hj hL (lv_at hl 1 rfl) (lv_at hl 5 rfl) (by decide) (by decide) dL_law_1813 dL_law_1814 dL_law_1816 dL_law_1817 dL_law_1818 ?_
  refine bk_sc 4 C hH hX hbl hbA hj hL (lv_at hl 1 rfl) (lv_at hl 5 rfl) (by decide) (by decide) dL_law_1819 dL_law_1820 dL_law_1822 dL_law_1823 dL_law_1824 ?_
  refine bk_sc 5 C hH hX hbl hbA hj hL (lv_at hl 1 rfl) (lv_at hl 5 rfl) (by decide) (by decide) dL_law_1825 dL_law_1826 dL_law_1828 dL_law_1829 dL_law_1830 ?_
  refine bk_callV (b := a2) (rest := []) (As := [.int ((xs (6 * j + 1))), .int ((xs (6 * j + 2))), .int ((xs (6 * j + 3))), .int ((xs (6 * j + 4))), .int ((xs (6 * j + 5)))]) (ro := some (.int r2)) (Y1 := Y1) (V1 := V2) C hH hl.1 (c_X12_best hq2) mc_X12_best mv_X12_best lk_RL_224 hs2 rfl rfl ⟨rfl, rfl⟩ ⟨by decide, by decide⟩ rfl (Nat.le_of_ble_eq_true rfl) dL_law_1831 ⟨by have := hRc; show _ ≤ 601024; omega, by have := hRs; show _ ≤ 7293034; omega⟩ (fun H locs hH => ?_)
  refine lv_istore (lv' := [(6, .int r2), (5, .int k9), (0, .ref b), (1, .ref a1), (2, .ref a2), (3, .ref a3), (4, .int (Int32.ofNat (6 * j)))]) hx hb dL_law_1834 hl (by decide) rfl (fun ls hl => ?_)
  refine lv_aload_n hx hb dL_law_1836 rfl (lv_at hl 4 rfl) ?_
  refine bk_callV (b := a2) (rest := []) (As := []) (ro := some (.int k9)) (Y1 := Y1) (V1 := V2) C hH hl.1 (c_X12_thrown hq3) mc_X12_thrown mv_X12_thrown lk_RL_130 hs3 rfl rfl ⟨rfl, rfl⟩ ⟨by decide, by decide⟩ rfl (Nat.le_of_ble_eq_true rfl) dL_law_1837 ⟨by have := hRc; show _ ≤ 601024; omega, by have := hRs; show _ ≤ 7293034; omega⟩ (fun H locs hH => ?_)
  refine lv_iload hx hb dL_law_1840 (lv_at hl 1 rfl) ?_
  refine W.widen (k := cells + 8) (n := slots + 400) (by omega) (by omega) ?_
  refine lv_icmp_eq (tgt := 1847) hx hb dL_law_1842 (by decide) (fun _ => ?_) (fun hc => absurd rfl hc)
  refine lv_iload hx hb dL_law_1847 (lv_at hl 1 rfl) ?_
  refine lv_if_ne (tgt := 1864) hx hb dL_law_1849 (by decide) (fun _ => ?_) (fun hc => ?_)
  · skip
    refine lv_goto (tgt := 2773) hx hb dL_law_1864 (by decide) ?_
    exact kk _ _ H locs ls hI hH (lv_sub hl [2, 3, 4, 5, 6] rfl)
  · have hk0 : k9 = 0 := hc
    refine lv_aload_n hx hb dL_law_1852 rfl (lv_at hl 5 rfl) ?_
    refine lv_iconst (v := 0) hx hb dL_law_1853 (by decide) ?_
    refine bk_lald C hH hs4 bk_in01 dL_law_1854 ?_
    refine lv_iload hx hb dL_law_1855 (lv_at hl 0 rfl) ?_
    refine lv_i2l hx hb dL_law_1857 rfl ?_
    refine W.lcmp hx hb dL_law_1858 ?_
    refine lv_if_eq (tgt := 1864) hx hb dL_law_1859 (by decide) (fun _ => ?_) (fun hc => absurd (bk_cmp0 (hr hk0)) hc)
    refine lv_goto (tgt := 2773) hx hb dL_law_1864 (by decide) ?_
    exact kk _ _ H locs ls hI hH (lv_sub hl [2, 3, 4, 5, 6] rfl)
set_option maxRecDepth 100000 in
set_option maxHeartbeats 4000000 in
theorem arm_28 (C : bk_C G p s m args meth c cL_law RL 8 (some FieldType.boolean)) (hst : l.stackTraces = false) (hX : va_X b L xs s s.heap) (hbl : b < s.heap.size) (hbA : ¬ bk_A G b) (hj : 6 * j + 6 ≤ L) (hL : L ≤ 3072) (hRc : cells + 8 ≤ 601024) (hRs : slots + 400 ≤ 7293034) (hl : lv_has ls 8 [(0, .ref b), (1, .ref a1), (2, .ref a2), (3, .ref a3), (4, .int (Int32.ofNat (6 * j)))]) (hH : bk_H G Y V s.heap H locs) (hs1 : bk_sh Y a1 = (1, 10)) (hS : bk_st28 N a1 a2 a3 Y V (xs (6 * j + 1)) (xs (6 * j + 2)) (xs (6 * j + 3)) (xs (6 * j + 4)) (xs (6 * j + 5)) I) (kk : ∀ (Y : bk_Lay) (V : bk_Val) (H : Heap) (locs : List Loc) (ls : Array Slot), I Y V → bk_H G Y V s.heap H locs → lv_has ls 8 [(0, .ref b), (1, .ref a1), (2, .ref a2), (3, .ref a3), (4, .int (Int32.ofNat (6 * j)))] → W p l e room_1 s m args below meth c H locs (cells + 8) (slots + 400) Q (F0 m 2773 ls [])) : W p l e room_1 s m args below meth c H locs cells slots Q (F0 m 1867 ls []) := by
  have hx := C.1
  have hb := C.2.1
  obtain ⟨out, hq1, he, ho, hS⟩ := hS
  refine lv_aload_n hx hb dL_law_1867 rfl (lv_at hl 1 rfl) ?_
  refine bk_sc 1 C hH hX hbl hbA hj hL (lv_at hl 0 rfl) (lv_at hl 4 rfl) (by decide) (by decide) dL_law_1868 dL_law_1869 dL_law_1871 dL_law_1872 dL_law_1873 ?_
  refine lv_aload_n hx hb dL_law_1874 rfl (lv_at hl 3 rfl) ?_
  refine bk_callSh (rest := []) (As := [.ref a1, .int ((xs (6 * j + 1))), .ref a3]) C hH hl.1 (h_L_dark hst hq1 hs1 he ho) mh_L_dark st_L_dark lw_RL_225 rfl ⟨rfl, rfl⟩ ⟨by decide, by decide⟩ rfl (Nat.le_of_ble_eq_true rfl) dL_law_1875 ⟨by have := hRc; show _ ≤ 601024; omega, by have := hRs; show _ ≤ 7293034; omega⟩ (fun k9 Y1 V1 H locs hk9 hH => ?_)
  obtain ⟨hs2, r2, V2, hq2, hs3, hq3, hs4, hr, hI⟩ := hS _ _ _ hk9
  refine lv_istore (lv' := [(5, .int k9), (0, .ref b), (1, .ref a1), (2, .ref a2), (3, .ref a3), (4, .int (Int32.ofNat (6 * j)))]) hx hb dL_law_1878 hl (by decide) rfl (fun ls hl => ?_)
  refine lv_aload_n hx hb dL_law_1880 rfl (lv_at hl 3 rfl) ?_
  refine bk_sc 1 C hH hX hbl hbA hj hL (lv_at hl 1 rfl) (lv_at hl 5 rfl) (by decide) (by decide) dL_law_1881 dL_law_1882 dL_law_1884 dL_law_1885 dL_law_1886 ?_
  refine bk_callV (b := a2) (rest := []) (As := [.int ((xs (6 * j + 1)))]) (ro := some (.int r2)) (Y1 := Y1) (V1 := V2) C hH hl.1 (c_X12_dark hq2) mc_X12_dark mv_X12_dark lk_RL_227 hs2 rfl rfl ⟨rfl, rfl⟩ ⟨by decide, by decide⟩ rfl (Nat.le_of_ble_eq_true rfl) dL_law_1887 ⟨by have := hRc; show _ ≤ 601024; omega, by have := hRs; show _ ≤ 7293034; omega⟩ (fun H locs hH => ?_)
  refine lv_istore (lv' := [(6, .int r2), (5, .int k9), (0, .ref b), (1, .ref a1), (2, .ref a2), (3, .ref a3), (4, .int (Int32.ofNat (6 * j)))]) hx hb dL_law_1890 hl (by decide) rfl (fun ls hl => ?_)
  refine lv_aload_n hx hb dL_law_1892 rfl (lv_at hl 4 rfl) ?_
  refine bk_callV (b := a2) (rest := []) (As := []) (ro := some (.int k9)) (Y1 := Y1) (V1 := V2) C hH hl.1 (c_X12_thrown hq3) mc_X12_thrown mv_X12_thrown lk_RL_130 hs3 rfl rfl ⟨rfl, rfl⟩ ⟨by decide, by decide⟩ rfl (Nat.le_of_ble_eq_true rfl) dL_law_1893 ⟨by have := hRc; show _ ≤ 601024; omega, by have := hRs; show _ ≤ 7293034; omega⟩ (fun H locs hH => ?_)
  refine lv_iload hx hb dL_law_1896 (lv_at hl 1 rfl) ?_
  refine W.widen (k := cells + 8) (n := slots + 400) (by omega) (by omega) ?_
  refine lv_icmp_eq (tgt := 1903) hx hb dL_law_1898 (by decide) (fun _ => ?_) (fun hc => absurd rfl hc)
  refine lv_iload hx hb dL_law_1903 (lv_at hl 1 rfl) ?_
  refine lv_if_ne (tgt := 1920) hx hb dL_law_1905 (by decide) (fun _ => ?_) (fun hc => ?_)
  · skip
    refine lv_goto (tgt := 2773) hx hb dL_law_1920 (by decide) ?_
    exact kk _ _ H locs ls hI hH (lv_sub hl [2, 3, 4, 5, 6] rfl)
  · have hk0 : k9 = 0 := hc
    refine lv_aload_n hx hb dL_law_1908 rfl (lv_at hl 5 rfl) ?_
    refine lv_iconst (v := 0) hx hb dL_law_1909 (by decide) ?_
    refine bk_lald C hH hs4 bk_in01 dL_law_1910 ?_
    refine lv_iload hx hb dL_law_1911 (lv_at hl 0 rfl) ?_
    refine lv_i2l hx hb dL_law_1913 rfl ?_
    refine W.lcmp hx hb dL_law_1914 ?_
    refine lv_if_eq (tgt := 1920) hx hb dL_law_1915 (by decide) (fun _ => ?_) (fun hc => absurd (bk_cmp0 (hr hk0)) hc)
    refine lv_goto (tgt := 2773) hx hb dL_law_1920 (by decide) ?_
    exact kk _ _ H locs ls hI hH (lv_sub hl [2, 3, 4, 5, 6] rfl)
set_option maxRecDepth 100000 in
set_option maxHeartbeats 4000000 in
theorem arm_29 (C : bk_C G p s m args meth c cL_law RL 8 (some FieldType.boolean)) (hst : l.stackTraces = false) (hX : va_X b L xs s s.heap) (hbl : b < s.heap.size) (hbA : ¬ bk_A G b) (hj : 6 * j + 6 ≤ L) (hL : L ≤ 3072) (hRc : cells + 8 ≤ 601024) (hRs : slots + 400 ≤ 7293034) (hl : lv_has ls 8 [(0, .ref b), (1, .ref a1), (2, .ref a2), (3, .ref a3), (4, .int (Int32.ofNat (6 * j)))]) (hH : bk_H G Y V s.heap H locs) (hs1 : bk_sh Y a1 = (1, 10)) (hS : bk_st29 N a1 a2 a3 Y V (xs (6 * j + 1)) (xs (6 * j + 2)) (xs (6 * j + 3)) (xs (6 * j + 4)) (xs (6 * j + 5)) I) (kk : ∀ (Y : bk_Lay) (V : bk_Val) (H : Heap) (locs : List Loc) (ls : Array Slot), I Y V → bk_H G Y V s.heap H locs → lv_has ls 8 [(0, .ref b), (1, .ref a1), (2, .ref a2), (3, .ref a3), (4, .int (Int32.ofNat (6 * j)))] → W p l e room_1 s m args below meth c H locs (cells + 8) (slots + 400) Q (F0 m 2773 ls [])) : W p l e room_1 s m args below meth c H locs cells slots Q (F0 m 1923 ls []) := by
  have hx := C.1
  have hb := C.2.1
  obtain ⟨out, hq1, he, ho, hS⟩ := hS
  refine lv_aload_n hx hb dL_law_1923 rfl (lv_at hl 1 rfl) ?_
  refine bk_sc 1 C hH hX hbl hbA hj hL (lv_at hl 0 rfl) (lv_at hl 4 rfl) (by decide) (by decide) dL_law_1924 dL_law_1925 dL_law_1927 dL_law_1928 dL_law_1929 ?_
  refine lv_aload_n hx hb dL_law_1930 rfl (lv_at hl 3 rfl) ?_
  refine bk_callSh (rest := []) (As := [.ref a1, .int ((xs (6 * j + 1))), .ref a3]) C hH hl.1 (h_L_mean hst hq1 hs1 he ho) mh_L_mean st_L_mean lw_RL_228 rfl ⟨rfl, rfl⟩ ⟨by decide, by decide⟩ rfl (Nat.le_of_ble_eq_true rfl) dL_law_1931 ⟨by have := hRc; show _ ≤ 601024; omega, by have := hRs; show _ ≤ 7293034; omega⟩ (fun k9 Y1 V1 H locs hk9 hH => ?_)
  obtain ⟨hs2, r2, V2, hq2, hs3, hq3, hs4, hr, hI⟩ := hS _ _ _ hk9
  refine lv_istore (lv' := [(5, .int k9), (0, .ref b), (1, .ref a1), (2, .ref a2), (3, .ref a3), (4, .int (Int32.ofNat (6 * j)))]) hx hb dL_law_1934 hl (by decide) rfl (fun ls hl => ?_)
  refine lv_aload_n hx hb dL_law_1936 rfl (lv_at hl 3 rfl) ?_
  refine bk_sc 1 C hH hX hbl hbA hj hL (lv_at hl 1 rfl) (lv_at hl 5 rfl) (by decide) (by decide) dL_law_1937 dL_law_1938 dL_law_1940 dL_law_1941 dL_law_1942 ?_
  refine bk_callV (b := a2) (rest := []) (As := [.int ((xs (6 * j + 1)))]) (ro := some (.int r2)) (Y1 := Y1) (V1 := V2) C hH hl.1 (c_X12_mean hq2) mc_X12_mean mv_X12_mean lk_RL_230 hs2 rfl rfl ⟨rfl, rfl⟩ ⟨by decide, by decide⟩ rfl (Nat.le_of_ble_eq_true rfl) dL_law_1943 ⟨by have := hRc; show _ ≤ 601024; omega, by have := hRs; show _ ≤ 7293034; omega⟩ (fun H locs hH => ?_)
  refine lv_istore (lv' := [(6, .int r2), (5, .int k9), (0, .ref b), (1, .ref a1), (2, .ref a2), (3, .ref a3), (4, .int (Int32.ofNat (6 * j)))]) hx hb dL_law_1946 hl (by decide) rfl (fun ls hl => ?_)
  refine lv_aload_n hx hb dL_law_1948 rfl (lv_at hl 4 rfl) ?_
  refine bk_callV (b := a2) (rest := []) (As := []) (ro := some (.int k9)) (Y1 := Y1) (V1 := V2) C hH hl.1 (c_X12_thrown hq3) mc_X12_thrown mv_X12_thrown lk_RL_130 hs3 rfl rfl ⟨rfl, rfl⟩ ⟨by decide, by decide⟩ rfl (Nat.le_of_ble_eq_true rfl) dL_law_1949 ⟨by have := hRc; show _ ≤ 601024; omega, by have := hRs; show _ ≤ 7293034; omega⟩ (fun H locs hH => ?_)
  refine lv_iload hx hb dL_law_1952 (lv_at hl 1 rfl) ?_
  refine W.widen (k := cells + 8) (n := slots + 400) (by omega) (by omega) ?_
  refine lv_icmp_eq (tgt := 1959) hx hb dL_law_1954 (by decide) (fun _ => ?_) (fun hc => absurd rfl hc)
  refine lv_iload hx hb dL_law_1959 (lv_at hl 1 rfl) ?_
  refine lv_if_ne (tgt := 1976) hx hb dL_law_1961 (by decide) (fun _ => ?_) (fun hc => ?_)
  · skip
    refine lv_goto (tgt := 2773) hx hb dL_law_1976 (by decide) ?_
    exact kk _ _ H locs ls hI hH (lv_sub hl [2, 3, 4, 5, 6] rfl)
  · have hk0 : k9 = 0 := hc
    refine lv_aload_n hx hb dL_law_1964 rfl (lv_at hl 5 rfl) ?_
    refine lv_iconst (v := 0) hx hb dL_law_1965 (by decide) ?_
    refine bk_lald C hH hs4 bk_in01 dL_law_1966 ?_
    refine lv_iload hx hb dL_law_1967 (lv_at hl 0 rfl) ?_
    refine lv_i2l hx hb dL_law_1969 rfl ?_
    refine W.lcmp hx hb dL_law_1970 ?_
    refine lv_if_eq (tgt := 1976) hx hb dL_law_1971 (by decide) (fun _ => ?_) (fun hc => absurd (bk_cmp0 (hr hk0)) hc)
    refine lv_goto (tgt := 2773) hx hb dL_law_1976 (by decide) ?_
    exact kk _ _ H locs ls hI hH (lv_sub hl [2, 3, 4, 5, 6] rfl)
set_option maxRecDepth 100000 in
set_option maxHeartbeats 4000000 in
theorem arm_30 (C : bk_C G p s m args meth c cL_law RL 8 (some FieldType.boolean)) (hst : l.stackTraces = false) (hX : va_X b L xs s s.heap) (hbl : b < s.heap.size) (hbA : ¬ bk_A G b) (hj : 6 * j + 6 ≤ L) (hL : L ≤ 3072) (hRc : cells + 8 ≤ 601024) (hRs : slots + 400 ≤ 7293034) (hl : lv_has ls 8 [(0, .ref b), (1, .ref a1), (2, .ref a2), (3, .ref a3), (4, .int (Int32.ofNat (6 * j)))]) (hH : bk_H G Y V s.heap H locs) (hs1 : bk_sh Y a1 = (1, 10)) (hS : bk_st30 N a1 a2 a3 Y V (xs (6 * j + 1)) (xs (6 * j + 2)) (xs (6 * j + 3)) (xs (6 * j + 4)) (xs (6 * j + 5)) I) (kk : ∀ (Y : bk_Lay) (V : bk_Val) (H : Heap) (locs : List Loc) (ls : Array Slot), I Y V → bk_H G Y V s.heap H locs → lv_has ls 8 [(0, .ref b), (1, .ref a1), (2, .ref a2), (3, .ref a3), (4, .int (Int32.ofNat (6 * j)))] → W p l e room_1 s m args below meth c H locs (cells + 8) (slots + 400) Q (F0 m 2773 ls [])) : W p l e room_1 s m args below meth c H locs cells slots Q (F0 m 1979 ls []) := by
  have hx := C.1
  have hb := C.2.1
  obtain ⟨out, hq1, he, ho, hS⟩ := hS
  refine lv_aload_n hx hb dL_law_1979 rfl (lv_at hl 1 rfl) ?_
  refine bk_sc 1 C hH hX hbl hbA hj hL (lv_at hl 0 rfl) (lv_at hl 4 rfl) (by decide) (by decide) dL_law_1980 dL_law_1981 dL_law_1983 dL_law_1984 dL_law_1985 ?_
  refine lv_aload_n hx hb dL_law_1986 rfl (lv_at hl 3 rfl) ?_
  refine bk_callSh (rest := []) (As := [.ref a1, .int ((xs (6 * j + 1))), .ref a3]) C hH hl.1 (h_L_tacks hst hq1 hs1 he ho) mh_L_tacks st_L_tacks lw_RL_231 rfl ⟨rfl, rfl⟩ ⟨by decide, by decide⟩ rfl (Nat.le_of_ble_eq_true rfl) dL_law_1987 ⟨by have := hRc; show _ ≤ 601024; omega, by have := hRs; show _ ≤ 7293034; omega⟩ (fun k9 Y1 V1 H locs hk9 hH => ?_)
  obtain ⟨hs2, r2, V2, hq2, hs3, hq3, hs4, hr, hI⟩ := hS _ _ _ hk9
  refine lv_istore (lv' := [(5, .int k9), (0, .ref b), (1, .ref a1), (2, .ref a2), (3, .ref a3), (4, .int (Int32.ofNat (6 * j)))]) hx hb dL_law_1990 hl (by decide) rfl (fun ls hl => ?_)
  refine lv_aload_n hx hb dL_law_1992 rfl (lv_at hl 3 rfl) ?_
  refine bk_sc 1 C hH hX hbl hbA hj hL (lv_at hl 1 rfl) (lv_at hl 5 rfl) (by decide) (by decide) dL_law_1993 dL_law_1994 dL_law_1996 dL_law_1997 dL_law_1998 ?_
  refine bk_callV (b := a2) (rest := []) (As := [.int ((xs (6 * j + 1)))]) (ro := some (.int r2)) (Y1 := Y1) (V1 := V2) C hH hl.1 (c_X12_tacks hq2) mc_X12_tacks mv_X12_tacks lk_RL_233 hs2 rfl rfl ⟨rfl, rfl⟩ ⟨by decide, by decide⟩ rfl (Nat.le_of_ble_eq_true rfl) dL_law_1999 ⟨by have := hRc; show _ ≤ 601024; omega, by have := hRs; show _ ≤ 7293034; omega⟩ (fun H locs hH => ?_)
  refine lv_istore (lv' := [(6, .int r2), (5, .int k9), (0, .ref b), (1, .ref a1), (2, .ref a2), (3, .ref a3), (4, .int (Int32.ofNat (6 * j)))]) hx hb dL_law_2002 hl (by decide) rfl (fun ls hl => ?_)
  refine lv_aload_n hx hb dL_law_2004 rfl (lv_at hl 4 rfl) ?_
  refine bk_callV (b := a2) (rest := []) (As := []) (ro := some (.int k9)) (Y1 := Y1) (V1 := V2) C hH hl.1 (c_X12_thrown hq3) mc_X12_thrown mv_X12_thrown lk_RL_130 hs3 rfl rfl ⟨rfl, rfl⟩ ⟨by decide, by decide⟩ rfl (Nat.le_of_ble_eq_true rfl) dL_law_2005 ⟨by have := hRc; show _ ≤ 601024; omega, by have := hRs; show _ ≤ 7293034; omega⟩ (fun H locs hH => ?_)
  refine lv_iload hx hb dL_law_2008 (lv_at hl 1 rfl) ?_
  refine W.widen (k := cells + 8) (n := slots + 400) (by omega) (by omega) ?_
  refine lv_icmp_eq (tgt := 2015) hx hb dL_law_2010 (by decide) (fun _ => ?_) (fun hc => absurd rfl hc)
  refine lv_iload hx hb dL_law_2015 (lv_at hl 1 rfl) ?_
  refine lv_if_ne (tgt := 2032) hx hb dL_law_2017 (by decide) (fun _ => ?_) (fun hc => ?_)
  · skip
    refine lv_goto (tgt := 2773) hx hb dL_law_2032 (by decide) ?_
    exact kk _ _ H locs ls hI hH (lv_sub hl [2, 3, 4, 5, 6] rfl)
  · have hk0 : k9 = 0 := hc
    refine lv_aload_n hx hb dL_law_2020 rfl (lv_at hl 5 rfl) ?_
    refine lv_iconst (v := 0) hx hb dL_law_2021 (by decide) ?_
    refine bk_lald C hH hs4 bk_in01 dL_law_2022 ?_
    refine lv_iload hx hb dL_law_2023 (lv_at hl 0 rfl) ?_
    refine lv_i2l hx hb dL_law_2025 rfl ?_
    refine W.lcmp hx hb dL_law_2026 ?_
    refine lv_if_eq (tgt := 2032) hx hb dL_law_2027 (by decide) (fun _ => ?_) (fun hc => absurd (bk_cmp0 (hr hk0)) hc)
    refine lv_goto (tgt := 2773) hx hb dL_law_2032 (by decide) ?_
    exact kk _ _ H locs ls hI hH (lv_sub hl [2, 3, 4, 5, 6] rfl)
set_option maxRecDepth 100000 in
set_option maxHeartbeats 4000000 in
theorem arm_31 (C : bk_C G p s m args meth c cL_law RL 8 (some FieldType.boolean)) (hst : l.stackTraces = false) (hX : va_X b L xs s s.heap) (hbl : b < s.heap.size) (hbA : ¬ bk_A G b) (hj : 6 * j + 6 ≤ L) (hL : L ≤ 3072) (hRc : cells + 8 ≤ 601024) (hRs : slots + 400 ≤ 7293034) (hl : lv_has ls 8 [(0, .ref b), (1, .ref a1), (2, .ref a2), (3, .ref a3), (4, .int (Int32.ofNat (6 * j)))]) (hH : bk_H G Y V s.heap H locs) (hs1 : bk_sh Y a1 = (1, 10)) (hS : bk_st31 N a1 a2 a3 Y V (xs (6 * j + 1)) (xs (6 * j + 2)) (xs (6 * j + 3)) (xs (6 * j + 4)) (xs (6 * j + 5)) I) (kk : ∀ (Y : bk_Lay) (V : bk_Val) (H : Heap) (locs : List Loc) (ls : Array Slot), I Y V → bk_H G Y V s.heap H locs → lv_has ls 8 [(0, .ref b), (1, .ref a1), (2, .ref a2), (3, .ref a3), (4, .int (Int32.ofNat (6 * j)))] → W p l e room_1 s m args below meth c H locs (cells + 8) (slots + 400) Q (F0 m 2773 ls [])) : W p l e room_1 s m args below meth c H locs cells slots Q (F0 m 2035 ls []) := by
  have hx := C.1
  have hb := C.2.1
  obtain ⟨out, hq1, he, ho, hS⟩ := hS
  refine lv_aload_n hx hb dL_law_2035 rfl (lv_at hl 1 rfl) ?_
  refine bk_sc 1 C hH hX hbl hbA hj hL (lv_at hl 0 rfl) (lv_at hl 4 rfl) (by decide) (by decide) dL_law_2036 dL_law_2037 dL_law_2039 dL_law_2040 dL_law_2041 ?_
  refine lv_aload_n hx hb dL_law_2042 rfl (lv_at hl 3 rfl) ?_
  refine bk_callSh (rest := []) (As := [.ref a1, .int ((xs (6 * j + 1))), .ref a3]) C hH hl.1 (h_L_cell hst hq1 hs1 he ho) mh_L_cell st_L_cell lw_RL_234 rfl ⟨rfl, rfl⟩ ⟨by decide, by decide⟩ rfl (Nat.le_of_ble_eq_true rfl) dL_law_2043 ⟨by have := hRc; show _ ≤ 601024; omega, by have := hRs; show _ ≤ 7293034; omega⟩ (fun k9 Y1 V1 H locs hk9 hH => ?_)
  obtain ⟨hs2, r2, V2, hq2, hs3, hq3, hs4, hr, hI⟩ := hS _ _ _ hk9
  refine lv_istore (lv' := [(5, .int k9), (0, .ref b), (1, .ref a1), (2, .ref a2), (3, .ref a3), (4, .int (Int32.ofNat (6 * j)))]) hx hb dL_law_2046 hl (by decide) rfl (fun ls hl => ?_)
  refine lv_aload_n hx hb dL_law_2048 rfl (lv_at hl 3 rfl) ?_
  refine bk_sc 1 C hH hX hbl hbA hj hL (lv_at hl 1 rfl) (lv_at hl 5 rfl) (by decide) (by decide) dL_law_2049 dL_law_2050 dL_law_2052 dL_law_2053 dL_law_2054 ?_
  refine bk_callV (b := a2) (rest := []) (As := [.int ((xs (6 * j + 1)))]) (ro := some (.int r2)) (Y1 := Y1) (V1 := V2) C hH hl.1 (c_X12_cell hq2) mc_X12_cell mv_X12_cell lk_RL_236 hs2 rfl rfl ⟨rfl, rfl⟩ ⟨by decide, by decide⟩ rfl (Nat.le_of_ble_eq_true rfl) dL_law_2055 ⟨by have := hRc; show _ ≤ 601024; omega, by have := hRs; show _ ≤ 7293034; omega⟩ (fun H locs hH => ?_)
  refine lv_istore (lv' := [(6, .int r2), (5, .int k9), (0, .ref b), (1, .ref a1), (2, .ref a2), (3, .ref a3), (4, .int (Int32.ofNat (6 * j)))]) hx hb dL_law_2058 hl (by decide) rfl (fun ls hl => ?_)
  refine lv_aload_n hx hb dL_law_2060 rfl (lv_at hl 4 rfl) ?_
  refine bk_callV (b := a2) (rest := []) (As := []) (ro := some (.int k9)) (Y1 := Y1) (V1 := V2) C hH hl.1 (c_X12_thrown hq3) mc_X12_thrown mv_X12_thrown lk_RL_130 hs3 rfl rfl ⟨rfl, rfl⟩ ⟨by decide, by decide⟩ rfl (Nat.le_of_ble_eq_true rfl) dL_law_2061 ⟨by have := hRc; show _ ≤ 601024; omega, by have := hRs; show _ ≤ 7293034; omega⟩ (fun H locs hH => ?_)
  refine lv_iload hx hb dL_law_2064 (lv_at hl 1 rfl) ?_
  refine W.widen (k := cells + 8) (n := slots + 400) (by omega) (by omega) ?_
  refine lv_icmp_eq (tgt := 2071) hx hb dL_law_2066 (by decide) (fun _ => ?_) (fun hc => absurd rfl hc)
  refine lv_iload hx hb dL_law_2071 (lv_at hl 1 rfl) ?_
  refine lv_if_ne (tgt := 2088) hx hb dL_law_2073 (by decide) (fun _ => ?_) (fun hc => ?_)
  · skip
    refine lv_goto (tgt := 2773) hx hb dL_law_2088 (by decide) ?_
    exact kk _ _ H locs ls hI hH (lv_sub hl [2, 3, 4, 5, 6] rfl)
  · have hk0 : k9 = 0 := hc
    refine lv_aload_n hx hb dL_law_2076 rfl (lv_at hl 5 rfl) ?_
    refine lv_iconst (v := 0) hx hb dL_law_2077 (by decide) ?_
    refine bk_lald C hH hs4 bk_in01 dL_law_2078 ?_
    refine lv_iload hx hb dL_law_2079 (lv_at hl 0 rfl) ?_
    refine lv_i2l hx hb dL_law_2081 rfl ?_
    refine W.lcmp hx hb dL_law_2082 ?_
    refine lv_if_eq (tgt := 2088) hx hb dL_law_2083 (by decide) (fun _ => ?_) (fun hc => absurd (bk_cmp0 (hr hk0)) hc)
    refine lv_goto (tgt := 2773) hx hb dL_law_2088 (by decide) ?_
    exact kk _ _ H locs ls hI hH (lv_sub hl [2, 3, 4, 5, 6] rfl)
set_option maxRecDepth 100000 in
set_option maxHeartbeats 4000000 in
theorem arm_32 (C : bk_C G p s m args meth c cL_law RL 8 (some FieldType.boolean)) (hst : l.stackTraces = false) (hX : va_X b L xs s s.heap) (hbl : b < s.heap.size) (hbA : ¬ bk_A G b) (hj : 6 * j + 6 ≤ L) (hL : L ≤ 3072) (hRc : cells + 8 ≤ 601024) (hRs : slots + 400 ≤ 7293034) (hl : lv_has ls 8 [(0, .ref b), (1, .ref a1), (2, .ref a2), (3, .ref a3), (4, .int (Int32.ofNat (6 * j)))]) (hH : bk_H G Y V s.heap H locs) (hs1 : bk_sh Y a1 = (1, 10)) (hS : bk_st32 N a1 a2 a3 Y V (xs (6 * j + 1)) (xs (6 * j + 2)) (xs (6 * j + 3)) (xs (6 * j + 4)) (xs (6 * j + 5)) I) (kk : ∀ (Y : bk_Lay) (V : bk_Val) (H : Heap) (locs : List Loc) (ls : Array Slot), I Y V → bk_H G Y V s.heap H locs → lv_has ls 8 [(0, .ref b), (1, .ref a1), (2, .ref a2), (3, .ref a3), (4, .int (Int32.ofNat (6 * j)))] → W p l e room_1 s m args below meth c H locs (cells + 8) (slots + 400) Q (F0 m 2773 ls [])) : W p l e room_1 s m args below meth c H locs cells slots Q (F0 m 2091 ls []) := by
  have hx := C.1
  have hb := C.2.1
  obtain ⟨r1, Y1, V1, hq1, hs2, r2, V2, hq2, hr, hI⟩ := hS
  refine lv_aload_n hx hb dL_law_2091 rfl (lv_at hl 1 rfl) ?_
  refine bk_sc 1 C hH hX hbl hbA hj hL (lv_at hl 0 rfl) (lv_at hl 4 rfl) (by decide) (by decide) dL_law_2092 dL_law_2093 dL_law_2095 dL_law_2096 dL_law_2097 ?_
  refine bk_callV (b := a1) (rest := []) (As := [.int ((xs (6 * j + 1)))]) (ro := some (.int r1)) (Y1 := Y1) (V1 := V1) C hH hl.1 (c_X11_thorn hq1) mc_X11_thorn mv_X11_thorn lk_RL_237 hs1 rfl rfl ⟨rfl, rfl⟩ ⟨by decide, by decide⟩ rfl (Nat.le_of_ble_eq_true rfl) dL_law_2098 ⟨by have := hRc; show _ ≤ 601024; omega, by have := hRs; show _ ≤ 7293034; omega⟩ (fun H locs hH => ?_)
  refine lv_aload_n hx hb dL_law_2101 rfl (lv_at hl 2 rfl) ?_
  refine bk_sc 1 C hH hX hbl hbA hj hL (lv_at hl 0 rfl) (lv_at hl 4 rfl) (by decide) (by decide) dL_law_2102 dL_law_2103 dL_law_2105 dL_law_2106 dL_law_2107 ?_
  refine bk_callV (b := a2) (rest := [.int r1]) (As := [.int ((xs (6 * j + 1)))]) (ro := some (.int r2)) (Y1 := Y1) (V1 := V2) C hH hl.1 (c_X12_thorn hq2) mc_X12_thorn mv_X12_thorn lk_RL_240 hs2 rfl rfl ⟨rfl, rfl⟩ ⟨by decide, by decide⟩ rfl (Nat.le_of_ble_eq_true rfl) dL_law_2108 ⟨by have := hRc; show _ ≤ 601024; omega, by have := hRs; show _ ≤ 7293034; omega⟩ (fun H locs hH => ?_)
  refine W.widen (k := cells + 8) (n := slots + 400) (by omega) (by omega) ?_
  refine lv_icmp_eq (tgt := 2773) hx hb dL_law_2111 (by decide) (fun _ => ?_) (fun hc => absurd hr hc)
  exact kk _ _ H locs ls hI hH hl
set_option maxRecDepth 100000 in
set_option maxHeartbeats 4000000 in
theorem arm_33 (C : bk_C G p s m args meth c cL_law RL 8 (some FieldType.boolean)) (hst : l.stackTraces = false) (hX : va_X b L xs s s.heap) (hbl : b < s.heap.size) (hbA : ¬ bk_A G b) (hj : 6 * j + 6 ≤ L) (hL : L ≤ 3072) (hRc : cells + 8 ≤ 601024) (hRs : slots + 400 ≤ 7293034) (hl : lv_has ls 8 [(0, .ref b), (1, .ref a1), (2, .ref a2), (3, .ref a3), (4, .int (Int32.ofNat (6 * j)))]) (hH : bk_H G Y V s.heap H locs) (hs1 : bk_sh Y a1 = (1, 10)) (hS : bk_st33 N a1 a2 a3 Y V (xs (6 * j + 1)) (xs (6 * j + 2)) (xs (6 * j + 3)) (xs (6 * j + 4)) (xs (6 * j + 5)) I) (kk : ∀ (Y : bk_Lay) (V : bk_Val) (H : Heap) (locs : List Loc) (ls : Array Slot), I Y V → bk_H G Y V s.heap H locs → lv_has ls 8 [(0, .ref b), (1, .ref a1), (2, .ref a2), (3, .ref a3), (4, .int (Int32.ofNat (6 * j)))] → W p l e room_1 s m args below meth c H locs (cells + 8) (slots + 400) Q (F0 m 2773 ls [])) : W p l e room_1 s m args below meth c H locs cells slots Q (F0 m 2116 ls []) := by
  have hx := C.1
  have hb := C.2.1
  obtain ⟨r1, hq1, hs2, r2, V2, hq2, hr, hI⟩ := hS
  refine lv_aload_n hx hb dL_law_2116 rfl (lv_at hl 1 rfl) ?_
  refine bk_callV (b := a1) (rest := []) (As := []) (ro := some (.int r1)) (Y1 := Y) (V1 := V) C hH hl.1 (c_X11_quarter hq1) mc_X11_quarter mv_X11_quarter lk_RL_241 hs1 rfl rfl ⟨rfl, rfl⟩ ⟨by decide, by decide⟩ rfl (Nat.le_of_ble_eq_true rfl) dL_law_2117 ⟨by have := hRc; show _ ≤ 601024; omega, by have := hRs; show _ ≤ 7293034; omega⟩ (fun H locs hH => ?_)
  refine lv_aload_n hx hb dL_law_2120 rfl (lv_at hl 2 rfl) ?_
  refine bk_callV (b := a2) (rest := [.int r1]) (As := []) (ro := some (.int r2)) (Y1 := Y) (V1 := V2) C hH hl.1 (c_X12_quarter hq2) mc_X12_quarter mv_X12_quarter lk_RL_244 hs2 rfl rfl ⟨rfl, rfl⟩ ⟨by decide, by decide⟩ rfl (Nat.le_of_ble_eq_true rfl) dL_law_2121 ⟨by have := hRc; show _ ≤ 601024; omega, by have := hRs; show _ ≤ 7293034; omega⟩ (fun H locs hH => ?_)
  refine W.widen (k := cells + 8) (n := slots + 400) (by omega) (by omega) ?_
  refine lv_icmp_eq (tgt := 2773) hx hb dL_law_2124 (by decide) (fun _ => ?_) (fun hc => absurd hr hc)
  exact kk _ _ H locs ls hI hH hl
set_option maxRecDepth 100000 in
set_option maxHeartbeats 4000000 in
theorem arm_34 (C : bk_C G p s m args meth c cL_law RL 8 (some FieldType.boolean)) (hst : l.stackTraces = false) (hX : va_X b L xs s s.heap) (hbl : b < s.heap.size) (hbA : ¬ bk_A G b) (hj : 6 * j + 6 ≤ L) (hL : L ≤ 3072) (hRc : cells + 8 ≤ 601024) (hRs : slots + 400 ≤ 7293034) (hl : lv_has ls 8 [(0, .ref b), (1, .ref a1), (2, .ref a2), (3, .ref a3), (4, .int (Int32.ofNat (6 * j)))]) (hH : bk_H G Y V s.heap H locs) (hs1 : bk_sh Y a1 = (1, 10)) (hS : bk_st34 N a1 a2 a3 Y V (xs (6 * j + 1)) (xs (6 * j + 2)) (xs (6 * j + 3)) (xs (6 * j + 4)) (xs (6 * j + 5)) I) (kk : ∀ (Y : bk_Lay) (V : bk_Val) (H : Heap) (locs : List Loc) (ls : Array Slot), I Y V → bk_H G Y V s.heap H locs → lv_has ls 8 [(0, .ref b), (1, .ref a1), (2, .ref a2), (3, .ref a3), (4, .int (Int32.ofNat (6 * j)))] → W p l e room_1 s m args below meth c H locs (cells + 8) (slots + 400) Q (F0 m 2773 ls [])) : W p l e room_1 s m args below meth c H locs cells slots Q (F0 m 2129 ls []) := by
  have hx := C.1
  have hb := C.2.1
  obtain ⟨out, hq1, he, ho, hS⟩ := hS
  refine lv_aload_n hx hb dL_law_2129 rfl (lv_at hl 1 rfl) ?_
  refine bk_sc 1 C hH hX hbl hbA hj hL (lv_at hl 0 rfl) (lv_at hl 4 rfl) (by decide) (by decide) dL_law_2130 dL_law_2131 dL_law_2133 dL_law_2134 dL_law_2135 ?_
  refine bk_sc 2 C hH hX hbl hbA hj hL (lv_at hl 0 rfl) (lv_at hl 4 rfl) (by decide) (by decide) dL_law_2136 dL_law_2137 dL_law_2139 dL_law_2140 dL_law_2141 ?_
  refine bk_nb hx hb dL_law_2142 dL_law_2145 dL_law_2146 dL_law_2149 ?_
  refine bk_sc 3 C hH hX hbl hbA hj hL (lv_at hl 0 rfl) (lv_at hl 4 rfl) (by decide) (by decide) dL_law_2150 dL_law_2151 dL_law_2153 dL_law_2154 dL_law_2155 ?_
  refine bk_sc 4 C hH hX hbl hbA hj hL (lv_at hl 0 rfl) (lv_at hl 4 rfl) (by decide) (by decide) dL_law_2156 dL_law_2157 dL_law_2159 dL_law_2160 dL_law_2161 ?_
  refine lv_aload_n hx hb dL_law_2162 rfl (lv_at hl 3 rfl) ?_
  refine bk_callSh (rest := []) (As := [.ref a1, .int ((xs (6 * j + 1))), .int (bk_b (xs (6 * j + 2))), .int ((xs (6 * j + 3))), .int ((xs (6 * j + 4))), .ref a3]) C hH hl.1 (h_L_sweep hst hq1 hs1 he ho) mh_L_sweep st_L_sweep lw_RL_245 rfl ⟨rfl, rfl⟩ ⟨by decide, by decide⟩ rfl (Nat.le_of_ble_eq_true rfl) dL_law_2163 ⟨by have := hRc; show _ ≤ 601024; omega, by have := hRs; show _ ≤ 7293034; omega⟩ (fun k9 Y1 V1 H locs hk9 hH => ?_)
  obtain ⟨hs2, r2, V2, hq2, hs3, hq3, hs4, hr, hI⟩ := hS _ _ _ hk9
  refine lv_istore (lv' := [(5, .int k9), (0, .ref b), (1, .ref a1), (2, .ref a2), (3, .ref a3), (4, .int (Int32.ofNat (6 * j)))]) hx hb dL_law_2166 hl (by decide) rfl (fun ls hl => ?_)
  refine lv_aload_n hx hb dL_law_2168 rfl (lv_at hl 3 rfl) ?_
  refine bk_sc 1 C hH hX hbl hbA hj hL (lv_at hl 1 rfl) (lv_at hl 5 rfl) (by decide) (by decide) dL_law_2169 dL_law_2170 dL_law_2172 dL_law_2173 dL_law_2174 ?_
  refine bk_sc 2 C hH hX hbl hbA hj hL (lv_at hl 1 rfl) (lv_at hl 5 rfl) (by decide) (by decide) dL_law_2175 dL_law_2176 dL_law_2178 dL_law_2179 dL_law_2180 ?_
  refine bk_nb hx hb dL_law_2181 dL_law_2184 dL_law_2185 dL_law_2188 ?_
  refine bk_sc 3 C hH hX hbl hbA hj hL (lv_at hl 1 rfl) (lv_at hl 5 rfl) (by decide) (by decide) dL_law_2189 dL_law_2190 dL_law_2192 dL_law_2193 dL_law_2194 ?_
  refine bk_sc 4 C hH hX hbl hbA hj hL (lv_at hl 1 rfl) (lv_at hl 5 rfl) (by decide) (by decide) dL_law_2195 dL_law_2196 dL_law_2198 dL_law_2199 dL_law_2200 ?_
  refine bk_callV (b := a2) (rest := []) (As := [.int ((xs (6 * j + 1))), .int (bk_b (xs (6 * j + 2))), .int ((xs (6 * j + 3))), .int ((xs (6 * j + 4)))]) (ro := some (.int r2)) (Y1 := Y1) (V1 := V2) C hH hl.1 (c_X12_sweep hq2) mc_X12_sweep mv_X12_sweep lk_RL_248 hs2 rfl rfl ⟨rfl, rfl⟩ ⟨by decide, by decide⟩ rfl (Nat.le_of_ble_eq_true rfl) dL_law_2201 ⟨by have := hRc; show _ ≤ 601024; omega, by have := hRs; show _ ≤ 7293034; omega⟩ (fun H locs hH => ?_)
  refine lv_istore (lv' := [(6, .int r2), (5, .int k9), (0, .ref b), (1, .ref a1), (2, .ref a2), (3, .ref a3), (4, .int (Int32.ofNat (6 * j)))]) hx hb dL_law_2204 hl (by decide) rfl (fun ls hl => ?_)
  refine lv_aload_n hx hb dL_law_2206 rfl (lv_at hl 4 rfl) ?_
  refine bk_callV (b := a2) (rest := []) (As := []) (ro := some (.int k9)) (Y1 := Y1) (V1 := V2) C hH hl.1 (c_X12_thrown hq3) mc_X12_thrown mv_X12_thrown lk_RL_130 hs3 rfl rfl ⟨rfl, rfl⟩ ⟨by decide, by decide⟩ rfl (Nat.le_of_ble_eq_true rfl) dL_law_2207 ⟨by have := hRc; show _ ≤ 601024; omega, by have := hRs; show _ ≤ 7293034; omega⟩ (fun H locs hH => ?_)
  refine lv_iload hx hb dL_law_2210 (lv_at hl 1 rfl) ?_
  refine W.widen (k := cells + 8) (n := slots + 400) (by omega) (by omega) ?_
  refine lv_icmp_eq (tgt := 2217) hx hb dL_law_2212 (by decide) (fun _ => ?_) (fun hc => absurd rfl hc)
  refine lv_iload hx hb dL_law_2217 (lv_at hl 1 rfl) ?_
  refine lv_if_ne (tgt := 2234) hx hb dL_law_2219 (by decide) (fun _ => ?_) (fun hc => ?_)
  · skip
    refine lv_goto (tgt := 2773) hx hb dL_law_2234 (by decide) ?_
    exact kk _ _ H locs ls hI hH (lv_sub hl [2, 3, 4, 5, 6] rfl)
  · have hk0 : k9 = 0 := hc
    refine lv_aload_n hx hb dL_law_2222 rfl (lv_at hl 5 rfl) ?_
    refine lv_iconst (v := 0) hx hb dL_law_2223 (by decide) ?_
    refine bk_lald C hH hs4 bk_in01 dL_law_2224 ?_
    refine lv_iload hx hb dL_law_2225 (lv_at hl 0 rfl) ?_
    refine lv_i2l hx hb dL_law_2227 rfl ?_
    refine W.lcmp hx hb dL_law_2228 ?_
    refine lv_if_eq (tgt := 2234) hx hb dL_law_2229 (by decide) (fun _ => ?_) (fun hc => absurd (bk_cmp0 (hr hk0)) hc)
    refine lv_goto (tgt := 2773) hx hb dL_law_2234 (by decide) ?_
    exact kk _ _ H locs ls hI hH (lv_sub hl [2, 3, 4, 5, 6] rfl)
set_option maxRecDepth 100000 in
set_option maxHeartbeats 4000000 in
theorem arm_35 (C : bk_C G p s m args meth c cL_law RL 8 (some FieldType.boolean)) (hst : l.stackTraces = false) (hX : va_X b L xs s s.heap) (hbl : b < s.heap.size) (hbA : ¬ bk_A G b) (hj : 6 * j + 6 ≤ L) (hL : L ≤ 3072) (hRc : cells + 8 ≤ 601024) (hRs : slots + 400 ≤ 7293034) (hl : lv_has ls 8 [(0, .ref b), (1, .ref a1), (2, .ref a2), (3, .ref a3), (4, .int (Int32.ofNat (6 * j)))]) (hH : bk_H G Y V s.heap H locs) (hs1 : bk_sh Y a1 = (1, 10)) (hS : bk_st35 N a1 a2 a3 Y V (xs (6 * j + 1)) (xs (6 * j + 2)) (xs (6 * j + 3)) (xs (6 * j + 4)) (xs (6 * j + 5)) I) (kk : ∀ (Y : bk_Lay) (V : bk_Val) (H : Heap) (locs : List Loc) (ls : Array Slot), I Y V → bk_H G Y V s.heap H locs → lv_has ls 8 [(0, .ref b), (1, .ref a1), (2, .ref a2), (3, .ref a3), (4, .int (Int32.ofNat (6 * j)))] → W p l e room_1 s m args below meth c H locs (cells + 8) (slots + 400) Q (F0 m 2773 ls [])) : W p l e room_1 s m args below meth c H locs cells slots Q (F0 m 2237 ls []) := by
  have hx := C.1
  have hb := C.2.1
  obtain ⟨out, hq1, he, ho, hS⟩ := hS
  refine lv_aload_n hx hb dL_law_2237 rfl (lv_at hl 1 rfl) ?_
  refine bk_sc 1 C hH hX hbl hbA hj hL (lv_at hl 0 rfl) (lv_at hl 4 rfl) (by decide) (by decide) dL_law_2238 dL_law_2239 dL_law_2241 dL_law_2242 dL_law_2243 ?_
  refine bk_sc 2 C hH hX hbl hbA hj hL (lv_at hl 0 rfl) (lv_at hl 4 rfl) (by decide) (by decide) dL_law_2244 dL_law_2245 dL_law_2247 dL_law_2248 dL_law_2249 ?_
  refine bk_sc 3 C hH hX hbl hbA hj hL (lv_at hl 0 rfl) (lv_at hl 4 rfl) (by decide) (by decide) dL_law_2250 dL_law_2251 dL_law_2253 dL_law_2254 dL_law_2255 ?_
  refine bk_nb hx hb dL_law_2256 dL_law_2259 dL_law_2260 dL_law_2263 ?_
  refine bk_sc 4 C hH hX hbl hbA hj hL (lv_at hl 0 rfl) (lv_at hl 4 rfl) (by decide) (by decide) dL_law_2264 dL_law_2265 dL_law_2267 dL_law_2268 dL_law_2269 ?_
  refine lv_aload_n hx hb dL_law_2270 rfl (lv_at hl 3 rfl) ?_
  refine bk_callSh (rest := []) (As := [.ref a1, .int ((xs (6 * j + 1))), .int ((xs (6 * j + 2))), .int (bk_b (xs (6 * j + 3))), .int ((xs (6 * j + 4))), .ref a3]) C hH hl.1 (h_L_seeks hst hq1 hs1 he ho) mh_L_seeks st_L_seeks lw_RL_249 rfl ⟨rfl, rfl⟩ ⟨by decide, by decide⟩ rfl (Nat.le_of_ble_eq_true rfl) dL_law_2271 ⟨by have := hRc; show _ ≤ 601024; omega, by have := hRs; show _ ≤ 7293034; omega⟩ (fun k9 Y1 V1 H locs hk9 hH => ?_)
  obtain ⟨hs2, r2, V2, hq2, hs3, hq3, hs4, hr, hI⟩ := hS _ _ _ hk9
  refine lv_istore (lv' := [(5, .int k9), (0, .ref b), (1, .ref a1), (2, .ref a2), (3, .ref a3), (4, .int (Int32.ofNat (6 * j)))]) hx hb dL_law_2274 hl (by decide) rfl (fun ls hl => ?_)
  refine lv_aload_n hx hb dL_law_2276 rfl (lv_at hl 3 rfl) ?_
  refine bk_sc 1 C hH hX hbl hbA hj hL (lv_at hl 1 rfl) (lv_at hl 5 rfl) (by decide) (by decide) dL_law_2277 dL_law_2278 dL_law_2280 dL_law_2281 dL_law_2282 ?_
  refine bk_sc 2 C hH hX hbl hbA hj hL (lv_at hl 1 rfl) (lv_at hl 5 rfl) (by decide) (by decide) dL_law_2283 dL_law_2284 dL_law_2286 dL_law_2287 dL_law_2288 ?_
  refine bk_sc 3 C hH hX hbl hbA hj hL (lv_at hl 1 rfl) (lv_at hl 5 rfl) (by decide) (by decide) dL_law_2289 dL_law_2290 dL_law_2292 dL_law_2293 dL_law_2294 ?_
  refine bk_nb hx hb dL_law_2295 dL_law_2298 dL_law_2299 dL_law_2302 ?_
  refine bk_sc 4 C hH hX hbl hbA hj hL (lv_at hl 1 rfl) (lv_at hl 5 rfl) (by decide) (by decide) dL_law_2303 dL_law_2304 dL_law_2306 dL_law_2307 dL_law_2308 ?_
  refine bk_callV (b := a2) (rest := []) (As := [.int ((xs (6 * j + 1))), .int ((xs (6 * j + 2))), .int (bk_b (xs (6 * j + 3))), .int ((xs (6 * j + 4)))]) (ro := some (.int r2)) (Y1 := Y1) (V1 := V2) C hH hl.1 (c_X12_seeks hq2) mc_X12_seeks mv_X12_seeks lk_RL_252 hs2 rfl rfl ⟨rfl, rfl⟩ ⟨by decide, by decide⟩ rfl (Nat.le_of_ble_eq_true rfl) dL_law_2309 ⟨by have := hRc; show _ ≤ 601024; omega, by have := hRs; show _ ≤ 7293034; omega⟩ (fun H locs hH => ?_)
  refine lv_istore (lv' := [(6, .int r2), (5, .int k9), (0, .ref b), (1, .ref a1), (2, .ref a2), (3, .ref a3), (4, .int (Int32.ofNat (6 * j)))]) hx hb dL_law_2312 hl (by decide) rfl (fun ls hl => ?_)
  refine lv_aload_n hx hb dL_law_2314 rfl (lv_at hl 4 rfl) ?_
  refine bk_callV (b := a2) (rest := []) (As := []) (ro := some (.int k9)) (Y1 := Y1) (V1 := V2) C hH hl.1 (c_X12_thrown hq3) mc_X12_thrown mv_X12_thrown lk_RL_130 hs3 rfl rfl ⟨rfl, rfl⟩ ⟨by decide, by decide⟩ rfl (Nat.le_of_ble_eq_true rfl) dL_law_2315 ⟨by have := hRc; show _ ≤ 601024; omega, by have := hRs; show _ ≤ 7293034; omega⟩ (fun H locs hH => ?_)
  refine lv_iload hx hb dL_law_2318 (lv_at hl 1 rfl) ?_
  refine W.widen (k := cells + 8) (n := slots + 400) (by omega) (by omega) ?_
  refine lv_icmp_eq (tgt := 2325) hx hb dL_law_2320 (by decide) (fun _ => ?_) (fun hc => absurd rfl hc)
  refine lv_iload hx hb dL_law_2325 (lv_at hl 1 rfl) ?_
  refine lv_if_ne (tgt := 2342) hx hb dL_law_2327 (by decide) (fun _ => ?_) (fun hc => ?_)
  · skip
    refine lv_goto (tgt := 2773) hx hb dL_law_2342 (by decide) ?_
    exact kk _ _ H locs ls hI hH (lv_sub hl [2, 3, 4, 5, 6] rfl)
  · have hk0 : k9 = 0 := hc
    refine lv_aload_n hx hb dL_law_2330 rfl (lv_at hl 5 rfl) ?_
    refine lv_iconst (v := 0) hx hb dL_law_2331 (by decide) ?_
    refine bk_lald C hH hs4 bk_in01 dL_law_2332 ?_
    refine lv_iload hx hb dL_law_2333 (lv_at hl 0 rfl) ?_
    refine lv_i2l hx hb dL_law_2335 rfl ?_
    refine W.lcmp hx hb dL_law_2336 ?_
    refine lv_if_eq (tgt := 2342) hx hb dL_law_2337 (by decide) (fun _ => ?_) (fun hc => absurd (bk_cmp0 (hr hk0)) hc)
    refine lv_goto (tgt := 2773) hx hb dL_law_2342 (by decide) ?_
    exact kk _ _ H locs ls hI hH (lv_sub hl [2, 3, 4, 5, 6] rfl)
set_option maxRecDepth 100000 in
set_option maxHeartbeats 4000000 in
theorem arm_36 (C : bk_C G p s m args meth c cL_law RL 8 (some FieldType.boolean)) (hst : l.stackTraces = false) (hX : va_X b L xs s s.heap) (hbl : b < s.heap.size) (hbA : ¬ bk_A G b) (hj : 6 * j + 6 ≤ L) (hL : L ≤ 3072) (hRc : cells + 8 ≤ 601024) (hRs : slots + 400 ≤ 7293034) (hl : lv_has ls 8 [(0, .ref b), (1, .ref a1), (2, .ref a2), (3, .ref a3), (4, .int (Int32.ofNat (6 * j)))]) (hH : bk_H G Y V s.heap H locs) (hs1 : bk_sh Y a1 = (1, 10)) (hS : bk_st36 N a1 a2 a3 Y V (xs (6 * j + 1)) (xs (6 * j + 2)) (xs (6 * j + 3)) (xs (6 * j + 4)) (xs (6 * j + 5)) I) (kk : ∀ (Y : bk_Lay) (V : bk_Val) (H : Heap) (locs : List Loc) (ls : Array Slot), I Y V → bk_H G Y V s.heap H locs → lv_has ls 8 [(0, .ref b), (1, .ref a1), (2, .ref a2), (3, .ref a3), (4, .int (Int32.ofNat (6 * j)))] → W p l e room_1 s m args below meth c H locs (cells + 8) (slots + 400) Q (F0 m 2773 ls [])) : W p l e room_1 s m args below meth c H locs cells slots Q (F0 m 2345 ls []) := by
  have hx := C.1
  have hb := C.2.1
  obtain ⟨out, hq1, he, ho, hS⟩ := hS
  refine lv_aload_n hx hb dL_law_2345 rfl (lv_at hl 1 rfl) ?_
  refine bk_sc 1 C hH hX hbl hbA hj hL (lv_at hl 0 rfl) (lv_at hl 4 rfl) (by decide) (by decide) dL_law_2346 dL_law_2347 dL_law_2349 dL_law_2350 dL_law_2351 ?_
  refine lv_aload_n hx hb dL_law_2352 rfl (lv_at hl 3 rfl) ?_
  refine bk_callSh (rest := []) (As := [.ref a1, .int ((xs (6 * j + 1))), .ref a3]) C hH hl.1 (h_L_enough hst hq1 hs1 he ho) mh_L_enough st_L_enough lw_RL_253 rfl ⟨rfl, rfl⟩ ⟨by decide, by decide⟩ rfl (Nat.le_of_ble_eq_true rfl) dL_law_2353 ⟨by have := hRc; show _ ≤ 601024; omega, by have := hRs; show _ ≤ 7293034; omega⟩ (fun k9 Y1 V1 H locs hk9 hH => ?_)
  obtain ⟨hs2, r2, V2, hq2, hs3, hq3, hs4, hr, hI⟩ := hS _ _ _ hk9
  refine lv_istore (lv' := [(5, .int k9), (0, .ref b), (1, .ref a1), (2, .ref a2), (3, .ref a3), (4, .int (Int32.ofNat (6 * j)))]) hx hb dL_law_2356 hl (by decide) rfl (fun ls hl => ?_)
  refine lv_aload_n hx hb dL_law_2358 rfl (lv_at hl 3 rfl) ?_
  refine bk_sc 1 C hH hX hbl hbA hj hL (lv_at hl 1 rfl) (lv_at hl 5 rfl) (by decide) (by decide) dL_law_2359 dL_law_2360 dL_law_2362 dL_law_2363 dL_law_2364 ?_
  refine bk_callV (b := a2) (rest := []) (As := [.int ((xs (6 * j + 1)))]) (ro := some (.int r2)) (Y1 := Y1) (V1 := V2) C hH hl.1 (c_X12_enough hq2) mc_X12_enough mv_X12_enough lk_RL_255 hs2 rfl rfl ⟨rfl, rfl⟩ ⟨by decide, by decide⟩ rfl (Nat.le_of_ble_eq_true rfl) dL_law_2365 ⟨by have := hRc; show _ ≤ 601024; omega, by have := hRs; show _ ≤ 7293034; omega⟩ (fun H locs hH => ?_)
  refine lv_istore (lv' := [(6, .int r2), (5, .int k9), (0, .ref b), (1, .ref a1), (2, .ref a2), (3, .ref a3), (4, .int (Int32.ofNat (6 * j)))]) hx hb dL_law_2368 hl (by decide) rfl (fun ls hl => ?_)
  refine lv_aload_n hx hb dL_law_2370 rfl (lv_at hl 4 rfl) ?_
  refine bk_callV (b := a2) (rest := []) (As := []) (ro := some (.int k9)) (Y1 := Y1) (V1 := V2) C hH hl.1 (c_X12_thrown hq3) mc_X12_thrown mv_X12_thrown lk_RL_130 hs3 rfl rfl ⟨rfl, rfl⟩ ⟨by decide, by decide⟩ rfl (Nat.le_of_ble_eq_true rfl) dL_law_2371 ⟨by have := hRc; show _ ≤ 601024; omega, by have := hRs; show _ ≤ 7293034; omega⟩ (fun H locs hH => ?_)
  refine lv_iload hx hb dL_law_2374 (lv_at hl 1 rfl) ?_
  refine W.widen (k := cells + 8) (n := slots + 400) (by omega) (by omega) ?_
  refine lv_icmp_eq (tgt := 2381) hx hb dL_law_2376 (by decide) (fun _ => ?_) (fun hc => absurd rfl hc)
  refine lv_iload hx hb dL_law_2381 (lv_at hl 1 rfl) ?_
  refine lv_if_ne (tgt := 2398) hx hb dL_law_2383 (by decide) (fun _ => ?_) (fun hc => ?_)
  · skip
    refine lv_goto (tgt := 2773) hx hb dL_law_2398 (by decide) ?_
    exact kk _ _ H locs ls hI hH (lv_sub hl [2, 3, 4, 5, 6] rfl)
  · have hk0 : k9 = 0 := hc
    refine lv_aload_n hx hb dL_law_2386 rfl (lv_at hl 5 rfl) ?_
    refine lv_iconst (v := 0) hx hb dL_law_2387 (by decide) ?_
    refine bk_lald C hH hs4 bk_in01 dL_law_2388 ?_
    refine lv_iload hx hb dL_law_2389 (lv_at hl 0 rfl) ?_
    refine lv_i2l hx hb dL_law_2391 rfl ?_
    refine W.lcmp hx hb dL_law_2392 ?_
    refine lv_if_eq (tgt := 2398) hx hb dL_law_2393 (by decide) (fun _ => ?_) (fun hc => absurd (bk_cmp0 (hr hk0)) hc)
    refine lv_goto (tgt := 2773) hx hb dL_law_2398 (by decide) ?_
    exact kk _ _ H locs ls hI hH (lv_sub hl [2, 3, 4, 5, 6] rfl)
set_option maxRecDepth 100000 in
set_option maxHeartbeats 4000000 in
theorem arm_37 (C : bk_C G p s m args meth c cL_law RL 8 (some FieldType.boolean)) (hst : l.stackTraces = false) (hX : va_X b L xs s s.heap) (hbl : b < s.heap.size) (hbA : ¬ bk_A G b) (hj : 6 * j + 6 ≤ L) (hL : L ≤ 3072) (hRc : cells + 8 ≤ 601024) (hRs : slots + 400 ≤ 7293034) (hl : lv_has ls 8 [(0, .ref b), (1, .ref a1), (2, .ref a2), (3, .ref a3), (4, .int (Int32.ofNat (6 * j)))]) (hH : bk_H G Y V s.heap H locs) (hs1 : bk_sh Y a1 = (1, 10)) (hS : bk_st37 N a1 a2 a3 Y V (xs (6 * j + 1)) (xs (6 * j + 2)) (xs (6 * j + 3)) (xs (6 * j + 4)) (xs (6 * j + 5)) I) (kk : ∀ (Y : bk_Lay) (V : bk_Val) (H : Heap) (locs : List Loc) (ls : Array Slot), I Y V → bk_H G Y V s.heap H locs → lv_has ls 8 [(0, .ref b), (1, .ref a1), (2, .ref a2), (3, .ref a3), (4, .int (Int32.ofNat (6 * j)))] → W p l e room_1 s m args below meth c H locs (cells + 8) (slots + 400) Q (F0 m 2773 ls [])) : W p l e room_1 s m args below meth c H locs cells slots Q (F0 m 2401 ls []) := by
  have hx := C.1
  have hb := C.2.1
  obtain ⟨out, hq1, he, ho, hS⟩ := hS
  refine lv_aload_n hx hb dL_law_2401 rfl (lv_at hl 1 rfl) ?_
  refine bk_sc 1 C hH hX hbl hbA hj hL (lv_at hl 0 rfl) (lv_at hl 4 rfl) (by decide) (by decide) dL_law_2402 dL_law_2403 dL_law_2405 dL_law_2406 dL_law_2407 ?_
  refine lv_aload_n hx hb dL_law_2408 rfl (lv_at hl 3 rfl) ?_
  refine bk_callSh (rest := []) (As := [.ref a1, .int ((xs (6 * j + 1))), .ref a3]) C hH hl.1 (h_L_ofInch hst hq1 hs1 he ho) mh_L_ofInch st_L_ofInch lw_RL_256 rfl ⟨rfl, rfl⟩ ⟨by decide, by decide⟩ rfl (Nat.le_of_ble_eq_true rfl) dL_law_2409 ⟨by have := hRc; show _ ≤ 601024; omega, by have := hRs; show _ ≤ 7293034; omega⟩ (fun k9 Y1 V1 H locs hk9 hH => ?_)
  obtain ⟨hs2, r2, V2, hq2, hs3, hq3, hs4, hr, hI⟩ := hS _ _ _ hk9
  refine lv_istore (lv' := [(5, .int k9), (0, .ref b), (1, .ref a1), (2, .ref a2), (3, .ref a3), (4, .int (Int32.ofNat (6 * j)))]) hx hb dL_law_2412 hl (by decide) rfl (fun ls hl => ?_)
  refine lv_aload_n hx hb dL_law_2414 rfl (lv_at hl 3 rfl) ?_
  refine bk_sc 1 C hH hX hbl hbA hj hL (lv_at hl 1 rfl) (lv_at hl 5 rfl) (by decide) (by decide) dL_law_2415 dL_law_2416 dL_law_2418 dL_law_2419 dL_law_2420 ?_
  refine bk_callV (b := a2) (rest := []) (As := [.int ((xs (6 * j + 1)))]) (ro := some (.int r2)) (Y1 := Y1) (V1 := V2) C hH hl.1 (c_X12_ofInch hq2) mc_X12_ofInch mv_X12_ofInch lk_RL_258 hs2 rfl rfl ⟨rfl, rfl⟩ ⟨by decide, by decide⟩ rfl (Nat.le_of_ble_eq_true rfl) dL_law_2421 ⟨by have := hRc; show _ ≤ 601024; omega, by have := hRs; show _ ≤ 7293034; omega⟩ (fun H locs hH => ?_)
  refine lv_istore (lv' := [(6, .int r2), (5, .int k9), (0, .ref b), (1, .ref a1), (2, .ref a2), (3, .ref a3), (4, .int (Int32.ofNat (6 * j)))]) hx hb dL_law_2424 hl (by decide) rfl (fun ls hl => ?_)
  refine lv_aload_n hx hb dL_law_2426 rfl (lv_at hl 4 rfl) ?_
  refine bk_callV (b := a2) (rest := []) (As := []) (ro := some (.int k9)) (Y1 := Y1) (V1 := V2) C hH hl.1 (c_X12_thrown hq3) mc_X12_thrown mv_X12_thrown lk_RL_130 hs3 rfl rfl ⟨rfl, rfl⟩ ⟨by decide, by decide⟩ rfl (Nat.le_of_ble_eq_true rfl) dL_law_2427 ⟨by have := hRc; show _ ≤ 601024; omega, by have := hRs; show _ ≤ 7293034; omega⟩ (fun H locs hH => ?_)
  refine lv_iload hx hb dL_law_2430 (lv_at hl 1 rfl) ?_
  refine W.widen (k := cells + 8) (n := slots + 400) (by omega) (by omega) ?_
  refine lv_icmp_eq (tgt := 2437) hx hb dL_law_2432 (by decide) (fun _ => ?_) (fun hc => absurd rfl hc)
  refine lv_iload hx hb dL_law_2437 (lv_at hl 1 rfl) ?_
  refine lv_if_ne (tgt := 2454) hx hb dL_law_2439 (by decide) (fun _ => ?_) (fun hc => ?_)
  · skip
    refine lv_goto (tgt := 2773) hx hb dL_law_2454 (by decide) ?_
    exact kk _ _ H locs ls hI hH (lv_sub hl [2, 3, 4, 5, 6] rfl)
  · have hk0 : k9 = 0 := hc
    refine lv_aload_n hx hb dL_law_2442 rfl (lv_at hl 5 rfl) ?_
    refine lv_iconst (v := 0) hx hb dL_law_2443 (by decide) ?_
    refine bk_lald C hH hs4 bk_in01 dL_law_2444 ?_
    refine lv_iload hx hb dL_law_2445 (lv_at hl 0 rfl) ?_
    refine lv_i2l hx hb dL_law_2447 rfl ?_
    refine W.lcmp hx hb dL_law_2448 ?_
    refine lv_if_eq (tgt := 2454) hx hb dL_law_2449 (by decide) (fun _ => ?_) (fun hc => absurd (bk_cmp0 (hr hk0)) hc)
    refine lv_goto (tgt := 2773) hx hb dL_law_2454 (by decide) ?_
    exact kk _ _ H locs ls hI hH (lv_sub hl [2, 3, 4, 5, 6] rfl)
set_option maxRecDepth 100000 in
set_option maxHeartbeats 4000000 in
theorem arm_38 (C : bk_C G p s m args meth c cL_law RL 8 (some FieldType.boolean)) (hst : l.stackTraces = false) (hX : va_X b L xs s s.heap) (hbl : b < s.heap.size) (hbA : ¬ bk_A G b) (hj : 6 * j + 6 ≤ L) (hL : L ≤ 3072) (hRc : cells + 8 ≤ 601024) (hRs : slots + 400 ≤ 7293034) (hl : lv_has ls 8 [(0, .ref b), (1, .ref a1), (2, .ref a2), (3, .ref a3), (4, .int (Int32.ofNat (6 * j)))]) (hH : bk_H G Y V s.heap H locs) (hs1 : bk_sh Y a1 = (1, 10)) (hS : bk_st38 N a1 a2 a3 Y V (xs (6 * j + 1)) (xs (6 * j + 2)) (xs (6 * j + 3)) (xs (6 * j + 4)) (xs (6 * j + 5)) I) (kk : ∀ (Y : bk_Lay) (V : bk_Val) (H : Heap) (locs : List Loc) (ls : Array Slot), I Y V → bk_H G Y V s.heap H locs → lv_has ls 8 [(0, .ref b), (1, .ref a1), (2, .ref a2), (3, .ref a3), (4, .int (Int32.ofNat (6 * j)))] → W p l e room_1 s m args below meth c H locs (cells + 8) (slots + 400) Q (F0 m 2773 ls [])) : W p l e room_1 s m args below meth c H locs cells slots Q (F0 m 2457 ls []) := by
  have hx := C.1
  have hb := C.2.1
  obtain ⟨out, hq1, he, ho, hS⟩ := hS
  refine lv_aload_n hx hb dL_law_2457 rfl (lv_at hl 1 rfl) ?_
  refine bk_sc 1 C hH hX hbl hbA hj hL (lv_at hl 0 rfl) (lv_at hl 4 rfl) (by decide) (by decide) dL_law_2458 dL_law_2459 dL_law_2461 dL_law_2462 dL_law_2463 ?_
  refine lv_aload_n hx hb dL_law_2464 rfl (lv_at hl 3 rfl) ?_
  refine bk_callSh (rest := []) (As := [.ref a1, .int ((xs (6 * j + 1))), .ref a3]) C hH hl.1 (h_L_ofSide hst hq1 hs1 he ho) mh_L_ofSide st_L_ofSide lw_RL_259 rfl ⟨rfl, rfl⟩ ⟨by decide, by decide⟩ rfl (Nat.le_of_ble_eq_true rfl) dL_law_2465 ⟨by have := hRc; show _ ≤ 601024; omega, by have := hRs; show _ ≤ 7293034; omega⟩ (fun k9 Y1 V1 H locs hk9 hH => ?_)
  obtain ⟨hs2, r2, V2, hq2, hs3, hq3, hs4, hr, hI⟩ := hS _ _ _ hk9
  refine lv_istore (lv' := [(5, .int k9), (0, .ref b), (1, .ref a1), (2, .ref a2), (3, .ref a3), (4, .int (Int32.ofNat (6 * j)))]) hx hb dL_law_2468 hl (by decide) rfl (fun ls hl => ?_)
  refine lv_aload_n hx hb dL_law_2470 rfl (lv_at hl 3 rfl) ?_
  refine bk_sc 1 C hH hX hbl hbA hj hL (lv_at hl 1 rfl) (lv_at hl 5 rfl) (by decide) (by decide) dL_law_2471 dL_law_2472 dL_law_2474 dL_law_2475 dL_law_2476 ?_
  refine bk_callV (b := a2) (rest := []) (As := [.int ((xs (6 * j + 1)))]) (ro := some (.int r2)) (Y1 := Y1) (V1 := V2) C hH hl.1 (c_X12_ofSide hq2) mc_X12_ofSide mv_X12_ofSide lk_RL_261 hs2 rfl rfl ⟨rfl, rfl⟩ ⟨by decide, by decide⟩ rfl (Nat.le_of_ble_eq_true rfl) dL_law_2477 ⟨by have := hRc; show _ ≤ 601024; omega, by have := hRs; show _ ≤ 7293034; omega⟩ (fun H locs hH => ?_)
  refine lv_istore (lv' := [(6, .int r2), (5, .int k9), (0, .ref b), (1, .ref a1), (2, .ref a2), (3, .ref a3), (4, .int (Int32.ofNat (6 * j)))]) hx hb dL_law_2480 hl (by decide) rfl (fun ls hl => ?_)
  refine lv_aload_n hx hb dL_law_2482 rfl (lv_at hl 4 rfl) ?_
  refine bk_callV (b := a2) (rest := []) (As := []) (ro := some (.int k9)) (Y1 := Y1) (V1 := V2) C hH hl.1 (c_X12_thrown hq3) mc_X12_thrown mv_X12_thrown lk_RL_130 hs3 rfl rfl ⟨rfl, rfl⟩ ⟨by decide, by decide⟩ rfl (Nat.le_of_ble_eq_true rfl) dL_law_2483 ⟨by have := hRc; show _ ≤ 601024; omega, by have := hRs; show _ ≤ 7293034; omega⟩ (fun H locs hH => ?_)
  refine lv_iload hx hb dL_law_2486 (lv_at hl 1 rfl) ?_
  refine W.widen (k := cells + 8) (n := slots + 400) (by omega) (by omega) ?_
  refine lv_icmp_eq (tgt := 2493) hx hb dL_law_2488 (by decide) (fun _ => ?_) (fun hc => absurd rfl hc)
  refine lv_iload hx hb dL_law_2493 (lv_at hl 1 rfl) ?_
  refine lv_if_ne (tgt := 2510) hx hb dL_law_2495 (by decide) (fun _ => ?_) (fun hc => ?_)
  · skip
    refine lv_goto (tgt := 2773) hx hb dL_law_2510 (by decide) ?_
    exact kk _ _ H locs ls hI hH (lv_sub hl [2, 3, 4, 5, 6] rfl)
  · have hk0 : k9 = 0 := hc
    refine lv_aload_n hx hb dL_law_2498 rfl (lv_at hl 5 rfl) ?_
    refine lv_iconst (v := 0) hx hb dL_law_2499 (by decide) ?_
    refine bk_lald C hH hs4 bk_in01 dL_law_2500 ?_
    refine lv_iload hx hb dL_law_2501 (lv_at hl 0 rfl) ?_
    refine lv_i2l hx hb dL_law_2503 rfl ?_
    refine W.lcmp hx hb dL_law_2504 ?_
    refine lv_if_eq (tgt := 2510) hx hb dL_law_2505 (by decide) (fun _ => ?_) (fun hc => absurd (bk_cmp0 (hr hk0)) hc)
    refine lv_goto (tgt := 2773) hx hb dL_law_2510 (by decide) ?_
    exact kk _ _ H locs ls hI hH (lv_sub hl [2, 3, 4, 5, 6] rfl)
set_option maxRecDepth 100000 in
set_option maxHeartbeats 4000000 in
theorem arm_39 (C : bk_C G p s m args meth c cL_law RL 8 (some FieldType.boolean)) (hst : l.stackTraces = false) (hX : va_X b L xs s s.heap) (hbl : b < s.heap.size) (hbA : ¬ bk_A G b) (hj : 6 * j + 6 ≤ L) (hL : L ≤ 3072) (hRc : cells + 8 ≤ 601024) (hRs : slots + 400 ≤ 7293034) (hl : lv_has ls 8 [(0, .ref b), (1, .ref a1), (2, .ref a2), (3, .ref a3), (4, .int (Int32.ofNat (6 * j)))]) (hH : bk_H G Y V s.heap H locs) (hs1 : bk_sh Y a1 = (1, 10)) (hS : bk_st39 N a1 a2 a3 Y V (xs (6 * j + 1)) (xs (6 * j + 2)) (xs (6 * j + 3)) (xs (6 * j + 4)) (xs (6 * j + 5)) I) (kk : ∀ (Y : bk_Lay) (V : bk_Val) (H : Heap) (locs : List Loc) (ls : Array Slot), I Y V → bk_H G Y V s.heap H locs → lv_has ls 8 [(0, .ref b), (1, .ref a1), (2, .ref a2), (3, .ref a3), (4, .int (Int32.ofNat (6 * j)))] → W p l e room_1 s m args below meth c H locs (cells + 8) (slots + 400) Q (F0 m 2773 ls [])) : W p l e room_1 s m args below meth c H locs cells slots Q (F0 m 2513 ls []) := by
  have hx := C.1
  have hb := C.2.1
  obtain ⟨out, hq1, he, ho, hS⟩ := hS
  refine lv_aload_n hx hb dL_law_2513 rfl (lv_at hl 1 rfl) ?_
  refine bk_sc 1 C hH hX hbl hbA hj hL (lv_at hl 0 rfl) (lv_at hl 4 rfl) (by decide) (by decide) dL_law_2514 dL_law_2515 dL_law_2517 dL_law_2518 dL_law_2519 ?_
  refine bk_sc 2 C hH hX hbl hbA hj hL (lv_at hl 0 rfl) (lv_at hl 4 rfl) (by decide) (by decide) dL_law_2520 dL_law_2521 dL_law_2523 dL_law_2524 dL_law_2525 ?_
  refine bk_nb hx hb dL_law_2526 dL_law_2529 dL_law_2530 dL_law_2533 ?_
  refine lv_aload_n hx hb dL_law_2534 rfl (lv_at hl 3 rfl) ?_
  refine bk_callSh (rest := []) (As := [.ref a1, .int ((xs (6 * j + 1))), .int (bk_b (xs (6 * j + 2))), .ref a3]) C hH hl.1 (h_L_flatIf hst hq1 hs1 he ho) mh_L_flatIf st_L_flatIf lw_RL_262 rfl ⟨rfl, rfl⟩ ⟨by decide, by decide⟩ rfl (Nat.le_of_ble_eq_true rfl) dL_law_2535 ⟨by have := hRc; show _ ≤ 601024; omega, by have := hRs; show _ ≤ 7293034; omega⟩ (fun k9 Y1 V1 H locs hk9 hH => ?_)
  obtain ⟨hs2, r2, V2, hq2, hs3, hq3, hs4, hr, hI⟩ := hS _ _ _ hk9
  refine lv_istore (lv' := [(5, .int k9), (0, .ref b), (1, .ref a1), (2, .ref a2), (3, .ref a3), (4, .int (Int32.ofNat (6 * j)))]) hx hb dL_law_2538 hl (by decide) rfl (fun ls hl => ?_)
  refine lv_aload_n hx hb dL_law_2540 rfl (lv_at hl 3 rfl) ?_
  refine bk_sc 1 C hH hX hbl hbA hj hL (lv_at hl 1 rfl) (lv_at hl 5 rfl) (by decide) (by decide) dL_law_2541 dL_law_2542 dL_law_2544 dL_law_2545 dL_law_2546 ?_
  refine bk_sc 2 C hH hX hbl hbA hj hL (lv_at hl 1 rfl) (lv_at hl 5 rfl) (by decide) (by decide) dL_law_2547 dL_law_2548 dL_law_2550 dL_law_2551 dL_law_2552 ?_
  refine bk_nb hx hb dL_law_2553 dL_law_2556 dL_law_2557 dL_law_2560 ?_
  refine bk_callV (b := a2) (rest := []) (As := [.int ((xs (6 * j + 1))), .int (bk_b (xs (6 * j + 2)))]) (ro := some (.int r2)) (Y1 := Y1) (V1 := V2) C hH hl.1 (c_X12_flatIf hq2) mc_X12_flatIf mv_X12_flatIf lk_RL_265 hs2 rfl rfl ⟨rfl, rfl⟩ ⟨by decide, by decide⟩ rfl (Nat.le_of_ble_eq_true rfl) dL_law_2561 ⟨by have := hRc; show _ ≤ 601024; omega, by have := hRs; show _ ≤ 7293034; omega⟩ (fun H locs hH => ?_)
  refine lv_istore (lv' := [(6, .int r2), (5, .int k9), (0, .ref b), (1, .ref a1), (2, .ref a2), (3, .ref a3), (4, .int (Int32.ofNat (6 * j)))]) hx hb dL_law_2564 hl (by decide) rfl (fun ls hl => ?_)
  refine lv_aload_n hx hb dL_law_2566 rfl (lv_at hl 4 rfl) ?_
  refine bk_callV (b := a2) (rest := []) (As := []) (ro := some (.int k9)) (Y1 := Y1) (V1 := V2) C hH hl.1 (c_X12_thrown hq3) mc_X12_thrown mv_X12_thrown lk_RL_130 hs3 rfl rfl ⟨rfl, rfl⟩ ⟨by decide, by decide⟩ rfl (Nat.le_of_ble_eq_true rfl) dL_law_2567 ⟨by have := hRc; show _ ≤ 601024; omega, by have := hRs; show _ ≤ 7293034; omega⟩ (fun H locs hH => ?_)
  refine lv_iload hx hb dL_law_2570 (lv_at hl 1 rfl) ?_
  refine W.widen (k := cells + 8) (n := slots + 400) (by omega) (by omega) ?_
  refine lv_icmp_eq (tgt := 2577) hx hb dL_law_2572 (by decide) (fun _ => ?_) (fun hc => absurd rfl hc)
  refine lv_iload hx hb dL_law_2577 (lv_at hl 1 rfl) ?_
  refine lv_if_ne (tgt := 2594) hx hb dL_law_2579 (by decide) (fun _ => ?_) (fun hc => ?_)
  · skip
    refine lv_goto (tgt := 2773) hx hb dL_law_2594 (by decide) ?_
    exact kk _ _ H locs ls hI hH (lv_sub hl [2, 3, 4, 5, 6] rfl)
  · have hk0 : k9 = 0 := hc
    refine lv_aload_n hx hb dL_law_2582 rfl (lv_at hl 5 rfl) ?_
    refine lv_iconst (v := 0) hx hb dL_law_2583 (by decide) ?_
    refine bk_lald C hH hs4 bk_in01 dL_law_2584 ?_
    refine lv_iload hx hb dL_law_2585 (lv_at hl 0 rfl) ?_
    refine lv_i2l hx hb dL_law_2587 rfl ?_
    refine W.lcmp hx hb dL_law_2588 ?_
    refine lv_if_eq (tgt := 2594) hx hb dL_law_2589 (by decide) (fun _ => ?_) (fun hc => absurd (bk_cmp0 (hr hk0)) hc)
    refine lv_goto (tgt := 2773) hx hb dL_law_2594 (by decide) ?_
    exact kk _ _ H locs ls hI hH (lv_sub hl [2, 3, 4, 5, 6] rfl)
set_option maxRecDepth 100000 in
set_option maxHeartbeats 4000000 in
theorem arm_40 (C : bk_C G p s m args meth c cL_law RL 8 (some FieldType.boolean)) (hst : l.stackTraces = false) (hX : va_X b L xs s s.heap) (hbl : b < s.heap.size) (hbA : ¬ bk_A G b) (hj : 6 * j + 6 ≤ L) (hL : L ≤ 3072) (hRc : cells + 8 ≤ 601024) (hRs : slots + 400 ≤ 7293034) (hl : lv_has ls 8 [(0, .ref b), (1, .ref a1), (2, .ref a2), (3, .ref a3), (4, .int (Int32.ofNat (6 * j)))]) (hH : bk_H G Y V s.heap H locs) (hs1 : bk_sh Y a1 = (1, 10)) (hS : bk_st40 N a1 a2 a3 Y V (xs (6 * j + 1)) (xs (6 * j + 2)) (xs (6 * j + 3)) (xs (6 * j + 4)) (xs (6 * j + 5)) I) (kk : ∀ (Y : bk_Lay) (V : bk_Val) (H : Heap) (locs : List Loc) (ls : Array Slot), I Y V → bk_H G Y V s.heap H locs → lv_has ls 8 [(0, .ref b), (1, .ref a1), (2, .ref a2), (3, .ref a3), (4, .int (Int32.ofNat (6 * j)))] → W p l e room_1 s m args below meth c H locs (cells + 8) (slots + 400) Q (F0 m 2773 ls [])) : W p l e room_1 s m args below meth c H locs cells slots Q (F0 m 2597 ls []) := by
  have hx := C.1
  have hb := C.2.1
  obtain ⟨out, hq1, he, ho, hS⟩ := hS
  refine lv_aload_n hx hb dL_law_2597 rfl (lv_at hl 1 rfl) ?_
  refine bk_sc 1 C hH hX hbl hbA hj hL (lv_at hl 0 rfl) (lv_at hl 4 rfl) (by decide) (by decide) dL_law_2598 dL_law_2599 dL_law_2601 dL_law_2602 dL_law_2603 ?_
  refine bk_sc 2 C hH hX hbl hbA hj hL (lv_at hl 0 rfl) (lv_at hl 4 rfl) (by decide) (by decide) dL_law_2604 dL_law_2605 dL_law_2607 dL_law_2608 dL_law_2609 ?_
  refine bk_nb hx hb dL_law_2610 dL_law_2613 dL_law_2614 dL_law_2617 ?_
  refine bk_sc 3 C hH hX hbl hbA hj hL (lv_at hl 0 rfl) (lv_at hl 4 rfl) (by decide) (by decide) dL_law_2618 dL_law_2619 dL_law_2621 dL_law_2622 dL_law_2623 ?_
  refine lv_aload_n hx hb dL_law_2624 rfl (lv_at hl 3 rfl) ?_
  refine bk_callSh (rest := []) (As := [.ref a1, .int ((xs (6 * j + 1))), .int (bk_b (xs (6 * j + 2))), .int ((xs (6 * j + 3))), .ref a3]) C hH hl.1 (h_L_which hst hq1 hs1 he ho) mh_L_which st_L_which lw_RL_266 rfl ⟨rfl, rfl⟩ ⟨by decide, by decide⟩ rfl (Nat.le_of_ble_eq_true rfl) dL_law_2625 ⟨by have := hRc; show _ ≤ 601024; omega, by have := hRs; show _ ≤ 7293034; omega⟩ (fun k9 Y1 V1 H locs hk9 hH => ?_)
  obtain ⟨hs2, r2, V2, hq2, hs3, hq3, hs4, hr, hI⟩ := hS _ _ _ hk9
  refine lv_istore (lv' := [(5, .int k9), (0, .ref b), (1, .ref a1), (2, .ref a2), (3, .ref a3), (4, .int (Int32.ofNat (6 * j)))]) hx hb dL_law_2628 hl (by decide) rfl (fun ls hl => ?_)
  refine lv_aload_n hx hb dL_law_2630 rfl (lv_at hl 3 rfl) ?_
  refine bk_sc 1 C hH hX hbl hbA hj hL (lv_at hl 1 rfl) (lv_at hl 5 rfl) (by decide) (by decide) dL_law_2631 dL_law_2632 dL_law_2634 dL_law_2635 dL_law_2636 ?_
  refine bk_sc 2 C hH hX hbl hbA hj hL (lv_at hl 1 rfl) (lv_at hl 5 rfl) (by decide) (by decide) dL_law_2637 dL_law_2638 dL_law_2640 dL_law_2641 dL_law_2642 ?_
  refine bk_nb hx hb dL_law_2643 dL_law_2646 dL_law_2647 dL_law_2650 ?_
  refine bk_sc 3 C hH hX hbl hbA hj hL (lv_at hl 1 rfl) (lv_at hl 5 rfl) (by decide) (by decide) dL_law_2651 dL_law_2652 dL_law_2654 dL_law_2655 dL_law_2656 ?_
  refine bk_callV (b := a2) (rest := []) (As := [.int ((xs (6 * j + 1))), .int (bk_b (xs (6 * j + 2))), .int ((xs (6 * j + 3)))]) (ro := some (.int r2)) (Y1 := Y1) (V1 := V2) C hH hl.1 (c_X12_which hq2) mc_X12_which mv_X12_which lk_RL_268 hs2 rfl rfl ⟨rfl, rfl⟩ ⟨by decide, by decide⟩ rfl (Nat.le_of_ble_eq_true rfl) dL_law_2657 ⟨by have := hRc; show _ ≤ 601024; omega, by have := hRs; show _ ≤ 7293034; omega⟩ (fun H locs hH => ?_)
  refine lv_istore (lv' := [(6, .int r2), (5, .int k9), (0, .ref b), (1, .ref a1), (2, .ref a2), (3, .ref a3), (4, .int (Int32.ofNat (6 * j)))]) hx hb dL_law_2660 hl (by decide) rfl (fun ls hl => ?_)
  refine lv_aload_n hx hb dL_law_2662 rfl (lv_at hl 4 rfl) ?_
  refine bk_callV (b := a2) (rest := []) (As := []) (ro := some (.int k9)) (Y1 := Y1) (V1 := V2) C hH hl.1 (c_X12_thrown hq3) mc_X12_thrown mv_X12_thrown lk_RL_130 hs3 rfl rfl ⟨rfl, rfl⟩ ⟨by decide, by decide⟩ rfl (Nat.le_of_ble_eq_true rfl) dL_law_2663 ⟨by have := hRc; show _ ≤ 601024; omega, by have := hRs; show _ ≤ 7293034; omega⟩ (fun H locs hH => ?_)
  refine lv_iload hx hb dL_law_2666 (lv_at hl 1 rfl) ?_
  refine W.widen (k := cells + 8) (n := slots + 400) (by omega) (by omega) ?_
  refine lv_icmp_eq (tgt := 2673) hx hb dL_law_2668 (by decide) (fun _ => ?_) (fun hc => absurd rfl hc)
  refine lv_iload hx hb dL_law_2673 (lv_at hl 1 rfl) ?_
  refine lv_if_ne (tgt := 2690) hx hb dL_law_2675 (by decide) (fun _ => ?_) (fun hc => ?_)
  · skip
    refine lv_goto (tgt := 2773) hx hb dL_law_2690 (by decide) ?_
    exact kk _ _ H locs ls hI hH (lv_sub hl [2, 3, 4, 5, 6] rfl)
  · have hk0 : k9 = 0 := hc
    refine lv_aload_n hx hb dL_law_2678 rfl (lv_at hl 5 rfl) ?_
    refine lv_iconst (v := 0) hx hb dL_law_2679 (by decide) ?_
    refine bk_lald C hH hs4 bk_in01 dL_law_2680 ?_
    refine lv_iload hx hb dL_law_2681 (lv_at hl 0 rfl) ?_
    refine lv_i2l hx hb dL_law_2683 rfl ?_
    refine W.lcmp hx hb dL_law_2684 ?_
    refine lv_if_eq (tgt := 2690) hx hb dL_law_2685 (by decide) (fun _ => ?_) (fun hc => absurd (bk_cmp0 (hr hk0)) hc)
    refine lv_goto (tgt := 2773) hx hb dL_law_2690 (by decide) ?_
    exact kk _ _ H locs ls hI hH (lv_sub hl [2, 3, 4, 5, 6] rfl)
set_option maxRecDepth 100000 in
set_option maxHeartbeats 4000000 in
theorem arm_41 (C : bk_C G p s m args meth c cL_law RL 8 (some FieldType.boolean)) (hst : l.stackTraces = false) (hX : va_X b L xs s s.heap) (hbl : b < s.heap.size) (hbA : ¬ bk_A G b) (hj : 6 * j + 6 ≤ L) (hL : L ≤ 3072) (hRc : cells + 8 ≤ 601024) (hRs : slots + 400 ≤ 7293034) (hl : lv_has ls 8 [(0, .ref b), (1, .ref a1), (2, .ref a2), (3, .ref a3), (4, .int (Int32.ofNat (6 * j)))]) (hH : bk_H G Y V s.heap H locs) (hs1 : bk_sh Y a1 = (1, 10)) (hS : bk_st41 N a1 a2 a3 Y V (xs (6 * j + 1)) (xs (6 * j + 2)) (xs (6 * j + 3)) (xs (6 * j + 4)) (xs (6 * j + 5)) I) (kk : ∀ (Y : bk_Lay) (V : bk_Val) (H : Heap) (locs : List Loc) (ls : Array Slot), I Y V → bk_H G Y V s.heap H locs → lv_has ls 8 [(0, .ref b), (1, .ref a1), (2, .ref a2), (3, .ref a3), (4, .int (Int32.ofNat (6 * j)))] → W p l e room_1 s m args below meth c H locs (cells + 8) (slots + 400) Q (F0 m 2773 ls [])) : W p l e room_1 s m args below meth c H locs cells slots Q (F0 m 2693 ls []) := by
  have hx := C.1
  have hb := C.2.1
  obtain ⟨out, hq1, he, ho, hS⟩ := hS
  refine lv_aload_n hx hb dL_law_2693 rfl (lv_at hl 1 rfl) ?_
  refine bk_sc 1 C hH hX hbl hbA hj hL (lv_at hl 0 rfl) (lv_at hl 4 rfl) (by decide) (by decide) dL_law_2694 dL_law_2695 dL_law_2697 dL_law_2698 dL_law_2699 ?_
  refine lv_aload_n hx hb dL_law_2700 rfl (lv_at hl 3 rfl) ?_
  refine bk_callSh (rest := []) (As := [.ref a1, .int ((xs (6 * j + 1))), .ref a3]) C hH hl.1 (h_L_rides hst hq1 hs1 he ho) mh_L_rides st_L_rides lw_RL_269 rfl ⟨rfl, rfl⟩ ⟨by decide, by decide⟩ rfl (Nat.le_of_ble_eq_true rfl) dL_law_2701 ⟨by have := hRc; show _ ≤ 601024; omega, by have := hRs; show _ ≤ 7293034; omega⟩ (fun k9 Y1 V1 H locs hk9 hH => ?_)
  obtain ⟨hs2, r2, V2, hq2, hs3, hq3, hs4, hr, hI⟩ := hS _ _ _ hk9
  refine lv_istore (lv' := [(5, .int k9), (0, .ref b), (1, .ref a1), (2, .ref a2), (3, .ref a3), (4, .int (Int32.ofNat (6 * j)))]) hx hb dL_law_2704 hl (by decide) rfl (fun ls hl => ?_)
  refine lv_aload_n hx hb dL_law_2706 rfl (lv_at hl 3 rfl) ?_
  refine bk_sc 1 C hH hX hbl hbA hj hL (lv_at hl 1 rfl) (lv_at hl 5 rfl) (by decide) (by decide) dL_law_2707 dL_law_2708 dL_law_2710 dL_law_2711 dL_law_2712 ?_
  refine bk_callV (b := a2) (rest := []) (As := [.int ((xs (6 * j + 1)))]) (ro := some (.int r2)) (Y1 := Y1) (V1 := V2) C hH hl.1 (c_X12_rides hq2) mc_X12_rides mv_X12_rides lk_RL_271 hs2 rfl rfl ⟨rfl, rfl⟩ ⟨by decide, by decide⟩ rfl (Nat.le_of_ble_eq_true rfl) dL_law_2713 ⟨by have := hRc; show _ ≤ 601024; omega, by have := hRs; show _ ≤ 7293034; omega⟩ (fun H locs hH => ?_)
  refine lv_istore (lv' := [(6, .int r2), (5, .int k9), (0, .ref b), (1, .ref a1), (2, .ref a2), (3, .ref a3), (4, .int (Int32.ofNat (6 * j)))]) hx hb dL_law_2716 hl (by decide) rfl (fun ls hl => ?_)
  refine lv_aload_n hx hb dL_law_2718 rfl (lv_at hl 4 rfl) ?_
  refine bk_callV (b := a2) (rest := []) (As := []) (ro := some (.int k9)) (Y1 := Y1) (V1 := V2) C hH hl.1 (c_X12_thrown hq3) mc_X12_thrown mv_X12_thrown lk_RL_130 hs3 rfl rfl ⟨rfl, rfl⟩ ⟨by decide, by decide⟩ rfl (Nat.le_of_ble_eq_true rfl) dL_law_2719 ⟨by have := hRc; show _ ≤ 601024; omega, by have := hRs; show _ ≤ 7293034; omega⟩ (fun H locs hH => ?_)
  refine lv_iload hx hb dL_law_2722 (lv_at hl 1 rfl) ?_
  refine W.widen (k := cells + 8) (n := slots + 400) (by omega) (by omega) ?_
  refine lv_icmp_eq (tgt := 2729) hx hb dL_law_2724 (by decide) (fun _ => ?_) (fun hc => absurd rfl hc)
  refine lv_iload hx hb dL_law_2729 (lv_at hl 1 rfl) ?_
  refine lv_if_ne (tgt := 2746) hx hb dL_law_2731 (by decide) (fun _ => ?_) (fun hc => ?_)
  · skip
    refine lv_goto (tgt := 2773) hx hb dL_law_2746 (by decide) ?_
    exact kk _ _ H locs ls hI hH (lv_sub hl [2, 3, 4, 5, 6] rfl)
  · have hk0 : k9 = 0 := hc
    refine lv_aload_n hx hb dL_law_2734 rfl (lv_at hl 5 rfl) ?_
    refine lv_iconst (v := 0) hx hb dL_law_2735 (by decide) ?_
    refine bk_lald C hH hs4 bk_in01 dL_law_2736 ?_
    refine lv_iload hx hb dL_law_2737 (lv_at hl 0 rfl) ?_
    refine lv_i2l hx hb dL_law_2739 rfl ?_
    refine W.lcmp hx hb dL_law_2740 ?_
    refine lv_if_eq (tgt := 2746) hx hb dL_law_2741 (by decide) (fun _ => ?_) (fun hc => absurd (bk_cmp0 (hr hk0)) hc)
    refine lv_goto (tgt := 2773) hx hb dL_law_2746 (by decide) ?_
    exact kk _ _ H locs ls hI hH (lv_sub hl [2, 3, 4, 5, 6] rfl)
set_option maxRecDepth 100000 in
set_option maxHeartbeats 4000000 in
theorem arm_42 (C : bk_C G p s m args meth c cL_law RL 8 (some FieldType.boolean)) (hst : l.stackTraces = false) (hX : va_X b L xs s s.heap) (hbl : b < s.heap.size) (hbA : ¬ bk_A G b) (hj : 6 * j + 6 ≤ L) (hL : L ≤ 3072) (hRc : cells + 8 ≤ 601024) (hRs : slots + 400 ≤ 7293034) (hl : lv_has ls 8 [(0, .ref b), (1, .ref a1), (2, .ref a2), (3, .ref a3), (4, .int (Int32.ofNat (6 * j)))]) (hH : bk_H G Y V s.heap H locs) (hs1 : bk_sh Y a1 = (1, 10)) (hS : bk_st42 N a1 a2 a3 Y V (xs (6 * j + 1)) (xs (6 * j + 2)) (xs (6 * j + 3)) (xs (6 * j + 4)) (xs (6 * j + 5)) I) (kk : ∀ (Y : bk_Lay) (V : bk_Val) (H : Heap) (locs : List Loc) (ls : Array Slot), I Y V → bk_H G Y V s.heap H locs → lv_has ls 8 [(0, .ref b), (1, .ref a1), (2, .ref a2), (3, .ref a3), (4, .int (Int32.ofNat (6 * j)))] → W p l e room_1 s m args below meth c H locs (cells + 8) (slots + 400) Q (F0 m 2773 ls [])) : W p l e room_1 s m args below meth c H locs cells slots Q (F0 m 2749 ls []) := by
  have hx := C.1
  have hb := C.2.1
  obtain ⟨Y1, V1, hq1, hs2, V2, hq2, hI⟩ := hS
  refine lv_aload_n hx hb dL_law_2749 rfl (lv_at hl 1 rfl) ?_
  refine bk_callV (b := a1) (rest := []) (As := []) (ro := none) (Y1 := Y1) (V1 := V1) C hH hl.1 (c_X11_image hq1) mc_X11_image mv_X11_image lk_RL_272 hs1 rfl rfl ⟨rfl, rfl⟩ ⟨by decide, by decide⟩ rfl (Nat.le_of_ble_eq_true rfl) dL_law_2750 ⟨by have := hRc; show _ ≤ 601024; omega, by have := hRs; show _ ≤ 7293034; omega⟩ (fun H locs hH => ?_)
  refine lv_aload_n hx hb dL_law_2753 rfl (lv_at hl 2 rfl) ?_
  refine bk_callV (b := a2) (rest := []) (As := []) (ro := none) (Y1 := Y1) (V1 := V2) C hH hl.1 (c_X12_image hq2) mc_X12_image mv_X12_image lk_RL_275 hs2 rfl rfl ⟨rfl, rfl⟩ ⟨by decide, by decide⟩ rfl (Nat.le_of_ble_eq_true rfl) dL_law_2754 ⟨by have := hRc; show _ ≤ 601024; omega, by have := hRs; show _ ≤ 7293034; omega⟩ (fun H locs hH => ?_)
  refine W.widen (k := cells + 8) (n := slots + 400) (by omega) (by omega) ?_
  refine lv_goto (tgt := 2773) hx hb dL_law_2757 (by decide) ?_
  exact kk _ _ H locs ls hI hH hl
set_option maxRecDepth 100000 in
set_option maxHeartbeats 4000000 in
theorem arm_43 (C : bk_C G p s m args meth c cL_law RL 8 (some FieldType.boolean)) (hst : l.stackTraces = false) (hX : va_X b L xs s s.heap) (hbl : b < s.heap.size) (hbA : ¬ bk_A G b) (hj : 6 * j + 6 ≤ L) (hL : L ≤ 3072) (hRc : cells + 8 ≤ 601024) (hRs : slots + 400 ≤ 7293034) (hl : lv_has ls 8 [(0, .ref b), (1, .ref a1), (2, .ref a2), (3, .ref a3), (4, .int (Int32.ofNat (6 * j)))]) (hH : bk_H G Y V s.heap H locs) (hs1 : bk_sh Y a1 = (1, 10)) (hS : bk_st43 N a1 a2 a3 Y V (xs (6 * j + 1)) (xs (6 * j + 2)) (xs (6 * j + 3)) (xs (6 * j + 4)) (xs (6 * j + 5)) I) (kk : ∀ (Y : bk_Lay) (V : bk_Val) (H : Heap) (locs : List Loc) (ls : Array Slot), I Y V → bk_H G Y V s.heap H locs → lv_has ls 8 [(0, .ref b), (1, .ref a1), (2, .ref a2), (3, .ref a3), (4, .int (Int32.ofNat (6 * j)))] → W p l e room_1 s m args below meth c H locs (cells + 8) (slots + 400) Q (F0 m 2773 ls [])) : W p l e room_1 s m args below meth c H locs cells slots Q (F0 m 2760 ls []) := by
  have hx := C.1
  have hb := C.2.1
  obtain ⟨r1, Y1, V1, hq1, hs2, r2, V2, hq2, hr, hI⟩ := hS
  refine lv_aload_n hx hb dL_law_2760 rfl (lv_at hl 1 rfl) ?_
  refine bk_callV (b := a1) (rest := []) (As := []) (ro := some (.int r1)) (Y1 := Y1) (V1 := V1) C hH hl.1 (c_X11_restore hq1) mc_X11_restore mv_X11_restore lk_RL_276 hs1 rfl rfl ⟨rfl, rfl⟩ ⟨by decide, by decide⟩ rfl (Nat.le_of_ble_eq_true rfl) dL_law_2761 ⟨by have := hRc; show _ ≤ 601024; omega, by have := hRs; show _ ≤ 7293034; omega⟩ (fun H locs hH => ?_)
  refine lv_aload_n hx hb dL_law_2764 rfl (lv_at hl 2 rfl) ?_
  refine bk_callV (b := a2) (rest := [.int r1]) (As := []) (ro := some (.int r2)) (Y1 := Y1) (V1 := V2) C hH hl.1 (c_X12_restore hq2) mc_X12_restore mv_X12_restore lk_RL_280 hs2 rfl rfl ⟨rfl, rfl⟩ ⟨by decide, by decide⟩ rfl (Nat.le_of_ble_eq_true rfl) dL_law_2765 ⟨by have := hRc; show _ ≤ 601024; omega, by have := hRs; show _ ≤ 7293034; omega⟩ (fun H locs hH => ?_)
  refine W.widen (k := cells + 8) (n := slots + 400) (by omega) (by omega) ?_
  refine lv_icmp_eq (tgt := 2773) hx hb dL_law_2768 (by decide) (fun _ => ?_) (fun hc => absurd hr hc)
  exact kk _ _ H locs ls hI hH hl
end
