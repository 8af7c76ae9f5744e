section
variable {p : Program} {l : Launch} {e : Env} {s : State} {m : MethodId} {args : Array Value} {below : List Frame} {meth : Method} {c : Code} {H : Heap} {locs : List Loc} {cells slots : Nat} {Q : State → Prop} {ls : Array Slot}
variable {G : bk_G} {Y : bk_Lay} {V : bk_Val} {b L j N a1 a2 a3 : Nat} {xs : Nat → Int32} {I : bk_Lay → bk_Val → Prop}
set_option maxRecDepth 100000 in
set_option maxHeartbeats 4000000 in
theorem bk_disp {k : Nat} (hk : k < 64) (C : bk_C G p s m args meth c cL_law RL 8 (some FieldType.boolean)) (hst : l.stackTraces = false) (hX : va_X b L xs s s.heap) (hbl : b < s.heap.size) (hbA : ¬ bk_A G b) (hj : 6 * j + 6 ≤ L) (hL : L ≤ 3072) (hRc : cells + 8 ≤ 601024) (hRs : slots + 400 ≤ 7293034) (hl : lv_has ls 8 [(0, .ref b), (1, .ref a1), (2, .ref a2), (3, .ref a3), (4, .int (Int32.ofNat (6 * j)))]) (hH : bk_H G Y V s.heap H locs) (hs1 : bk_sh Y a1 = (1, 10)) (hS : bk_step N a1 a2 a3 Y V k (xs (6 * j + 1)) (xs (6 * j + 2)) (xs (6 * j + 3)) (xs (6 * j + 4)) (xs (6 * j + 5)) I) (kk : ∀ (Y : bk_Lay) (V : bk_Val) (H : Heap) (locs : List Loc) (ls : Array Slot), I Y V → bk_H G Y V s.heap H locs → lv_has ls 8 [(0, .ref b), (1, .ref a1), (2, .ref a2), (3, .ref a3), (4, .int (Int32.ofNat (6 * j)))] → W p l e room_1 s m args below meth c H locs (cells + 8) (slots + 400) Q (F0 m 2773 ls [])) : W p l e room_1 s m args below meth c H locs cells slots Q (F0 m 40 ls [.int (Int32.ofNat k)]) := by
  have hx := C.1
  have hb := C.2.1
  obtain ⟨h0, h1, h2, h3, h4, h5, h6, h7, h8, h9, h10, h11, h12, h13, h14, h15, h16, h17, h18, h19, h20, h21, h22, h23, h24, h25, h26, h27, h28, h29, h30, h31, h32, h33, h34, h35, h36, h37, h38, h39, h40, h41, h42, h43, hd⟩ := hS
  match e9 : k with
  | 0 => exact lv_tableIn (off := 192) (tgt := 232) hx hb dL_law_40 (by decide) (by decide) (by decide) (by decide) (arm_0 C hst hX hbl hbA hj hL hRc hRs hl hH hs1 (h0 rfl) kk)
  | 1 => exact lv_tableIn (off := 265) (tgt := 305) hx hb dL_law_40 (by decide) (by decide) (by decide) (by decide) (arm_1 C hst hX hbl hbA hj hL hRc hRs hl hH hs1 (h1 rfl) kk)
  | 2 => exact lv_tableIn (off := 321) (tgt := 361) hx hb dL_law_40 (by decide) (by decide) (by decide) (by decide) (arm_2 C hst hX hbl hbA hj hL hRc hRs hl hH hs1 (h2 rfl) kk)
  | 3 => exact lv_tableIn (off := 334) (tgt := 374) hx hb dL_law_40 (by decide) (by decide) (by decide) (by decide) (arm_3 C hst hX hbl hbA hj hL hRc hRs hl hH hs1 (h3 rfl) kk)
  | 4 => exact lv_tableIn (off := 390) (tgt := 430) hx hb dL_law_40 (by decide) (by decide) (by decide) (by decide) (arm_4 C hst hX hbl hbA hj hL hRc hRs hl hH hs1 (h4 rfl) kk)
  | 5 => exact lv_tableIn (off := 458) (tgt := 498) hx hb dL_law_40 (by decide) (by decide) (by decide) (by decide) (arm_5 C hst hX hbl hbA hj hL hRc hRs hl hH hs1 (h5 rfl) kk)
  | 6 => exact lv_tableIn (off := 499) (tgt := 539) hx hb dL_law_40 (by decide) (by decide) (by decide) (by decide) (arm_6 C hst hX hbl hbA hj hL hRc hRs hl hH hs1 (h6 rfl) kk)
  | 7 => exact lv_tableIn (off := 552) (tgt := 592) hx hb dL_law_40 (by decide) (by decide) (by decide) (by decide) (arm_7 C hst hX hbl hbA hj hL hRc hRs hl hH hs1 (h7 rfl) kk)
  | 8 => exact lv_tableIn (off := 565) (tgt := 605) hx hb dL_law_40 (by decide) (by decide) (by decide) (by decide) (arm_8 C hst hX hbl hbA hj hL hRc hRs hl hH hs1 (h8 rfl) kk)
  | 9 => exact lv_tableIn (off := 578) (tgt := 618) hx hb dL_law_40 (by decide) (by decide) (by decide) (by decide) (arm_9 C hst hX hbl hbA hj hL hRc hRs hl hH hs1 (h9 rfl) kk)
  | 10 => exact lv_tableIn (off := 619) (tgt := 659) hx hb dL_law_40 (by decide) (by decide) (by decide) (by decide) (arm_10 C hst hX hbl hbA hj hL hRc hRs hl hH hs1 (h10 rfl) kk)
  | 11 => exact lv_tableIn (off := 656) (tgt := 696) hx hb dL_law_40 (by decide) (by decide) (by decide) (by decide) (arm_11 C hst hX hbl hbA hj hL hRc hRs hl hH hs1 (h11 rfl) kk)
  | 12 => exact lv_tableIn (off := 693) (tgt := 733) hx hb dL_law_40 (by decide) (by decide) (by decide) (by decide) (arm_12 C hst hX hbl hbA hj hL hRc hRs hl hH hs1 (h12 rfl) kk)
  | 13 => exact lv_tableIn (off := 748) (tgt := 788) hx hb dL_law_40 (by decide) (by decide) (by decide) (by decide) (arm_13 C hst hX hbl hbA hj hL hRc hRs hl hH hs1 (h13 rfl) kk)
  | 14 => exact lv_tableIn (off := 804) (tgt := 844) hx hb dL_law_40 (by decide) (by decide) (by decide) (by decide) (arm_14 C hst hX hbl hbA hj hL hRc hRs hl hH hs1 (h14 rfl) kk)
  | 15 => exact lv_tableIn (off := 860) (tgt := 900) hx hb dL_law_40 (by decide) (by decide) (by decide) (by decide) (arm_15 C hst hX hbl hbA hj hL hRc hRs hl hH hs1 (h15 rfl) kk)
  | 16 => exact lv_tableIn (off := 916) (tgt := 956) hx hb dL_law_40 (by decide) (by decide) (by decide) (by decide) (arm_16 C hst hX hbl hbA hj hL hRc hRs hl hH hs1 (h16 rfl) kk)
  | 17 => exact lv_tableIn (off := 972) (tgt := 1012) hx hb dL_law_40 (by decide) (by decide) (by decide) (by decide) (arm_17 C hst hX hbl hbA hj hL hRc hRs hl hH hs1 (h17 rfl) kk)
  | 18 => exact lv_tableIn (off := 1068) (tgt := 1108) hx hb dL_law_40 (by decide) (by decide) (by decide) (by decide) (arm_18 C hst hX hbl hbA hj hL hRc hRs hl hH hs1 (h18 rfl) kk)
  | 19 => exact lv_tableIn (off := 1124) (tgt := 1164) hx hb dL_law_40 (by decide) (by decide) (by decide) (by decide) (arm_19 C hst hX hbl hbA hj hL hRc hRs hl hH hs1 (h19 rfl) kk)
  | 20 => exact lv_tableIn (off := 1180) (tgt := 1220) hx hb dL_law_40 (by decide) (by decide) (by decide) (by decide) (arm_20 C hst hX hbl hbA hj hL hRc hRs hl hH hs1 (h20 rfl) kk)
  | 21 => exact lv_tableIn (off := 1272) (tgt := 1312) hx hb dL_law_40 (by decide) (by decide) (by decide) (by decide) (arm_21 C hst hX hbl hbA hj hL hRc hRs hl hH hs1 (h21 rfl) kk)
  | 22 => exact lv_tableIn (off := 1364) (tgt := 1404) hx hb dL_law_40 (by decide) (by decide) (by decide) (by decide) (arm_22 C hst hX hbl hbA hj hL hRc hRs hl hH hs1 (h22 rfl) kk)
  | 23 => exact lv_tableIn (off := 1475) (tgt := 1515) hx hb dL_law_40 (by decide) (by decide) (by decide) (by decide) (arm_23 C hst hX hbl hbA hj hL hRc hRs hl hH hs1 (h23 rfl) kk)
  | 24 => exact lv_tableIn (off := 1531) (tgt := 1571) hx hb dL_law_40 (by decide) (by decide) (by decide) (by decide) (arm_24 C hst hX hbl hbA hj hL hRc hRs hl hH hs1 (h24 rfl) kk)
  | 25 => exact lv_tableIn (off := 1587) (tgt := 1627) hx hb dL_law_40 (by decide) (by decide) (by decide) (by decide) (arm_25 C hst hX hbl hbA hj hL hRc hRs hl hH hs1 (h25 rfl) kk)
  | 26 => exact lv_tableIn (off := 1655) (tgt := 1695) hx hb dL_law_40 (by decide) (by decide) (by decide) (by decide) (arm_26 C hst hX hbl hbA hj hL hRc hRs hl hH hs1 (h26 rfl) kk)
  | 27 => exact lv_tableIn (off := 1723) (tgt := 1763) hx hb dL_law_40 (by decide) (by decide) (by decide) (by decide) (arm_27 C hst hX hbl hbA hj hL hRc hRs hl hH hs1 (h27 rfl) kk)
  | 28 => exact lv_tableIn (off := 1827) (tgt := 1867) hx hb dL_law_40 (by decide) (by decide) (by decide) (by decide) (arm_28 C hst hX hbl hbA hj hL hRc hRs hl hH hs1 (h28 rfl) kk)
  | 29 => exact lv_tableIn (off := 1883) (tgt := 1923) hx hb dL_law_40 (by decide) (by decide) (by decide) (by decide) (arm_29 C hst hX hbl hbA hj hL hRc hRs hl hH hs1 (h29 rfl) kk)
  | 30 => exact lv_tableIn (off := 1939) (tgt := 1979) hx hb dL_law_40 (by decide) (by decide) (by decide) (by decide) (arm_30 C hst hX hbl hbA hj hL hRc hRs hl hH hs1 (h30 rfl) kk)
  | 31 => exact lv_tableIn (off := 1995) (tgt := 2035) hx hb dL_law_40 (by decide) (by decide) (by decide) (by decide) (arm_31 C hst hX hbl hbA hj hL hRc hRs hl hH hs1 (h31 rfl) kk)
  | 32 => exact lv_tableIn (off := 2051) (tgt := 2091) hx hb dL_law_40 (by decide) (by decide) (by decide) (by decide) (arm_32 C hst hX hbl hbA hj hL hRc hRs hl hH hs1 (h32 rfl) kk)
  | 33 => exact lv_tableIn (off := 2076) (tgt := 2116) hx hb dL_law_40 (by decide) (by decide) (by decide) (by decide) (arm_33 C hst hX hbl hbA hj hL hRc hRs hl hH hs1 (h33 rfl) kk)
  | 34 => exact lv_tableIn (off := 2089) (tgt := 2129) hx hb dL_law_40 (by decide) (by decide) (by decide) (by decide) (arm_34 C hst hX hbl hbA hj hL hRc hRs hl hH hs1 (h34 rfl) kk)
  | 35 => exact lv_tableIn (off := 2197) (tgt := 2237) hx hb dL_law_40 (by decide) (by decide) (by decide) (by decide) (arm_35 C hst hX hbl hbA hj hL hRc hRs hl hH hs1 (h35 rfl) kk)
  | 36 => exact lv_tableIn (off := 2305) (tgt := 2345) hx hb dL_law_40 (by decide) (by decide) (by decide) (by decide) (arm_36 C hst hX hbl hbA hj hL hRc hRs hl hH hs1 (h36 rfl) kk)
  | 37 => exact lv_tableIn (off := 2361) (tgt := 2401) hx hb dL_law_40 (by decide) (by decide) (by decide) (by decide) (arm_37 C hst hX hbl hbA hj hL hRc hRs hl hH hs1 (h37 rfl) kk)
  | 38 => exact lv_tableIn (off := 2417) (tgt := 2457) hx hb dL_law_40 (by decide) (by decide) (by decide) (by decide) (arm_38 C hst hX hbl hbA hj hL hRc hRs hl hH hs1 (h38 rfl) kk)
  | 39 => exact lv_tableIn (off := 2473) (tgt := 2513) hx hb dL_law_40 (by decide) (by decide) (by decide) (by decide) (arm_39 C hst hX hbl hbA hj hL hRc hRs hl hH hs1 (h39 rfl) kk)
  | 40 => exact lv_tableIn (off := 2557) (tgt := 2597) hx hb dL_law_40 (by decide) (by decide) (by decide) (by decide) (arm_40 C hst hX hbl hbA hj hL hRc hRs hl hH hs1 (h40 rfl) kk)
  | 41 => exact lv_tableIn (off := 2653) (tgt := 2693) hx hb dL_law_40 (by decide) (by decide) (by decide) (by decide) (arm_41 C hst hX hbl hbA hj hL hRc hRs hl hH hs1 (h41 rfl) kk)
  | 42 => exact lv_tableIn (off := 2709) (tgt := 2749) hx hb dL_law_40 (by decide) (by decide) (by decide) (by decide) (arm_42 C hst hX hbl hbA hj hL hRc hRs hl hH hs1 (h42 rfl) kk)
  | 43 => exact lv_tableIn (off := 2720) (tgt := 2760) hx hb dL_law_40 (by decide) (by decide) (by decide) (by decide) (arm_43 C hst hX hbl hbA hj hL hRc hRs hl hH hs1 (h43 rfl) kk)
  | n + 44 =>
    refine lv_tableOut (tgt := 2773) hx hb dL_law_40 (Or.inr ?_) (by decide) ?_
    · rw [Int32.toInt_ofNat_of_lt (by omega)]; omega
    · refine W.widen (k := cells + 8) (n := slots + 400) (by omega) (by omega) ?_
      exact kk Y V H locs ls (hd (by omega)) hH hl
theorem bk_op (x : Int32) : ∃ k : Nat, k < 64 ∧ x &&& 63 = Int32.ofNat k := by
  refine ⟨(x &&& 63).toBitVec.toNat, ?_, ?_⟩
  · rw [Int32.toBitVec_and, BitVec.toNat_and]
    exact Nat.lt_of_le_of_lt Nat.and_le_right (by decide)
  · apply Int32.toBitVec_inj.mp
    show (x &&& 63).toBitVec = BitVec.ofNat 32 _
    rw [BitVec.ofNat_toNat, BitVec.setWidth_eq]
theorem bk_lim {L : Nat} (hL : L ≤ 3072) : (Int32.ofNat L - 6).toInt = (L : Int) - 6 := by
  rw [Int32.toInt_sub, Int32.toInt_ofNat_of_lt (by omega)]
  show Int.bmod ((L : Int) - 6) (2 ^ 32) = _
  rw [Int.bmod_eq_of_le (by omega) (by omega)]
set_option maxRecDepth 100000 in
set_option maxHeartbeats 4000000 in
theorem bk_loop {c0 s0 : Nat} (C : bk_C G p s m args meth c cL_law RL 8 (some FieldType.boolean)) (hst : l.stackTraces = false) (hX : va_X b L xs s s.heap) (hbl : b < s.heap.size) (hbA : ¬ bk_A G b) (hL : L ≤ 3072) (hc0 : c0 ≤ 2000) (hs0 : s0 ≤ 100000)
    (hI : ∀ Y V, I Y V → bk_sh Y a1 = (1, 10) ∧ ∀ (op : Nat) (x1 x2 x3 x4 x5 : Int32), bk_step N a1 a2 a3 Y V op x1 x2 x3 x4 x5 I)
    (kk : ∀ (Y : bk_Lay) (V : bk_Val) (H : Heap) (locs : List Loc) (ls : Array Slot) (cells slots : Nat), bk_H G Y V s.heap H locs → cells ≤ 601024 → slots ≤ 7293034 → W p l e room_1 s m args below meth c H locs cells slots Q (F0 m 2779 ls [])) :
    ∀ (n j : Nat) (Y : bk_Lay) (V : bk_Val) (H : Heap) (locs : List Loc) (ls : Array Slot), j + n = L / 6 → I Y V → bk_H G Y V s.heap H locs → lv_has ls 8 [(0, .ref b), (1, .ref a1), (2, .ref a2), (3, .ref a3), (4, .int (Int32.ofNat (6 * j)))] → W p l e room_1 s m args below meth c H locs (c0 + 8 * j) (s0 + 400 * j) Q (F0 m 23 ls []) := by
  have hx := C.1
  have hb := C.2.1
  intro n
  induction n with
  | zero =>
    intro j Y V H locs ls hj hIn hH hl
    refine lv_iload hx hb dL_law_23 (lv_at hl 4 rfl) ?_
    refine lv_aload_n hx hb dL_law_25 rfl (lv_at hl 0 rfl) ?_
    refine va_slen hx hb hX hbl hbA hH.2.1 dL_law_26 ?_
    refine lv_bipush (v := 6) hx hb dL_law_27 (by decide) ?_
    refine lv_isub hx hb dL_law_29 ?_
    refine lv_icmp_gt (tgt := 2779) hx hb dL_law_30 (by decide) (fun _ => kk Y V H locs ls _ _ hH (by omega) (by omega)) (fun hc => absurd ?_ hc)
    show Int32.ofNat L - 6 < Int32.ofNat (6 * j)
    rw [Int32.lt_iff_toInt_lt, bk_lim hL, Int32.toInt_ofNat_of_lt (by omega)]
    omega
  | succ n ih =>
    intro j Y V H locs ls hj hIn hH hl
    refine lv_iload hx hb dL_law_23 (lv_at hl 4 rfl) ?_
    refine lv_aload_n hx hb dL_law_25 rfl (lv_at hl 0 rfl) ?_
    refine va_slen hx hb hX hbl hbA hH.2.1 dL_law_26 ?_
    refine lv_bipush (v := 6) hx hb dL_law_27 (by decide) ?_
    refine lv_isub hx hb dL_law_29 ?_
    refine lv_icmp_gt (tgt := 2779) hx hb dL_law_30 (by decide) (fun hc => ?_) (fun _ => ?_)
    · have hc2 : Int32.ofNat L - 6 < Int32.ofNat (6 * j) := hc
      rw [Int32.lt_iff_toInt_lt, bk_lim hL, Int32.toInt_ofNat_of_lt (by omega)] at hc2
      exact absurd hc2 (by omega)
    · obtain ⟨hs1, hstep⟩ := hI Y V hIn
      refine lv_aload_n hx hb dL_law_33 rfl (lv_at hl 0 rfl) ?_
      refine lv_iload hx hb dL_law_34 (lv_at hl 4 rfl) ?_
      refine va_sld hx hb hX hbl hbA hH.2.1 (bk_scin (by omega) hL) dL_law_36 ?_
      rw [bk_nat (by omega)]
      refine lv_bipush (v := 63) hx hb dL_law_37 (by decide) ?_
      refine lv_iand hx hb dL_law_39 ?_
      obtain ⟨k, hk, hop⟩ := bk_op (xs (6 * j))
      rw [hop]
      refine bk_disp (b := b) (L := L) (j := j) (xs := xs) (a1 := a1) (a2 := a2) (a3 := a3) (N := N) (I := I) hk C hst hX hbl hbA (by omega) hL (by omega) (by omega) hl hH hs1 (hstep k _ _ _ _ _) (fun Y V H locs ls hIn hH hl => ?_)
      refine lv_iinc (k := 4) (v := Int32.ofNat (6 * (j + 1))) (lv' := [(4, .int (Int32.ofNat (6 * (j + 1)))), (0, .ref b), (1, .ref a1), (2, .ref a2), (3, .ref a3)]) hx hb dL_law_2773 hl rfl (bk_plc (j := j) (k := 6) (by omega) (by decide)) (by decide) rfl (fun ls hl => ?_)
      refine lv_goto (tgt := 23) hx hb dL_law_2776 (by decide) ?_
      exact ih (j + 1) Y V H locs ls (by omega) hIn hH (lv_sub hl [1, 2, 3, 4, 0] rfl)
end
