/-! the law's body: blocks of instructions -/
def bk_b (x : Int32) : Int32 := if x = 0 then 0 else 1
theorem bk_cmp0 {x y : Int64} (h : x = y) : lg_cmp x y = 0 := by
  subst h
  unfold lg_cmp
  rw [if_neg (by exact Int64.lt_irrefl), if_pos rfl]
/-- the script's place of call j, number k -/
theorem bk_plc {j k : Nat} {c : Int32} (h : 6 * j + k < 100000) (hc : c = Int32.ofNat k) : Int32.ofNat (6 * j) + c = Int32.ofNat (6 * j + k) := by
  subst hc
  exact (Int32.ofNat_add _ _).symm
theorem bk_nat {n : Nat} (h : n < 100000) : (Int32.ofNat n).toNatClampNeg = n := by
  rw [Int32.toNatClampNeg_ofNat_of_lt (by omega)]
theorem bk_scin {n L : Nat} (h : n < L) (hL : L ≤ 3072) : vp_in (Int32.ofNat n) L := by
  unfold vp_in
  rw [bk_nat (by omega)]
  rintro (h1 | h1)
  · rw [Int32.lt_iff_toInt_lt, Int32.toInt_ofNat_of_lt (by omega), Int32.toInt_zero] at h1
    omega
  · omega
section
variable {p : Program} {l : Launch} {e : Env} {R : Room} {s : State} {m : MethodId} {args : Array Value} {below : List Frame} {meth : Method} {c : Code} {H : Heap} {locs : List Loc} {cells slots : Nat} {Q : State → Prop}
variable {cc : ByteArray} {pc : Nat} {ls : Array Slot} {rest : List Value} {G : bk_G} {Y Y1 : bk_Lay} {V V1 : bk_Val} {own : String} {nL : Nat} {ret : Option FieldType}
/-- a number of the script: aload_0, iload 4, iconst k, iadd, iaload -/
theorem bk_sc {b L j : Nat} {xs : Nat → Int32} {n : Int} (k : Nat) (C : bk_C G p s m args meth c cc own nL ret) (hH : bk_H G Y V s.heap H locs) (hX : va_X b L xs s s.heap) (hbl : b < s.heap.size) (hbA : ¬ bk_A G b) (hj : 6 * j + 6 ≤ L) (hL : L ≤ 3072) (h0 : ls[0]? = some (.val (.ref b))) (h4 : ls[4]? = some (.val (.int (Int32.ofNat (6 * j))))) (hk : k < 6) (hn : Int32.ofInt n = Int32.ofNat k)
    (d0 : decode cc pc = .ok (.aload_n 0, 1)) (d1 : decode cc (pc + 1) = .ok (.iload 4, 2)) (d3 : decode cc (pc + 3) = .ok (.iconst n, 1)) (d4 : decode cc (pc + 4) = .ok (.iadd, 1)) (d5 : decode cc (pc + 5) = .ok (.iaload, 1))
    (kk : W p l e R s m args below meth c H locs cells slots Q (F0 m (pc + 6) ls (.int (xs (6 * j + k)) :: rest))) : W p l e R s m args below meth c H locs cells slots Q (F0 m pc ls rest) := by
  obtain ⟨hx, hb, -, -, -, -, -, -⟩ := id C
  refine lv_aload_n hx hb d0 rfl h0 ?_
  refine lv_iload hx hb d1 h4 ?_
  refine lv_iconst (v := Int32.ofNat k) hx hb d3 hn ?_
  refine lv_iadd hx hb d4 ?_
  rw [bk_plc (j := j) (k := k) (by omega) rfl]
  refine va_sld hx hb hX hbl hbA hH.2.1 (bk_scin (by omega) hL) d5 ?_
  rw [bk_nat (by omega)]
  exact kk
/-- a number not 0: ifeq, iconst 1, goto, iconst 0 -/
theorem bk_nb {x : Int32} (hx : p.tables.exec = Jvm.exec) (hb : c.code = cc) (d0 : decode cc pc = .ok (.ifCond .eq 7, 3)) (d3 : decode cc (pc + 3) = .ok (.iconst 1, 1)) (d4 : decode cc (pc + 4) = .ok (.goto 4, 3)) (d7 : decode cc (pc + 7) = .ok (.iconst 0, 1))
    (kk : W p l e R s m args below meth c H locs cells slots Q (F0 m (pc + 8) ls (.int (bk_b x) :: rest))) : W p l e R s m args below meth c H locs cells slots Q (F0 m pc ls (.int x :: rest)) := by
  refine lv_if_eq (tgt := pc + 7) hx hb d0 (by omega) (fun hc => ?_) (fun hc => ?_)
  · refine lv_iconst (v := 0) hx hb d7 (by decide) ?_
    unfold bk_b at kk
    rw [if_pos hc] at kk
    exact kk
  · refine lv_iconst (v := 1) hx hb d3 (by decide) ?_
    refine lv_goto (tgt := pc + 8) hx hb d4 (by omega) ?_
    unfold bk_b at kk
    rw [if_neg hc] at kk
    exact kk
/-- the same, to a long -/
theorem bk_nbl {x : Int32} (hx : p.tables.exec = Jvm.exec) (hb : c.code = cc) (d0 : decode cc pc = .ok (.ifCond .eq 7, 3)) (d3 : decode cc (pc + 3) = .ok (.lconst 1, 1)) (d4 : decode cc (pc + 4) = .ok (.goto 4, 3)) (d7 : decode cc (pc + 7) = .ok (.lconst 0, 1))
    (kk : W p l e R s m args below meth c H locs cells slots Q (F0 m (pc + 8) ls (.long (if x = 0 then 0 else 1) :: rest))) : W p l e R s m args below meth c H locs cells slots Q (F0 m pc ls (.int x :: rest)) := by
  refine lv_if_eq (tgt := pc + 7) hx hb d0 (by omega) (fun hc => ?_) (fun hc => ?_)
  · refine lv_lconst (v := 0) hx hb d7 (by decide) ?_
    rw [if_pos hc] at kk
    exact kk
  · refine lv_lconst (v := 1) hx hb d3 (by decide) ?_
    refine lv_goto (tgt := pc + 8) hx hb d4 (by omega) ?_
    rw [if_neg hc] at kk
    exact kk
end
