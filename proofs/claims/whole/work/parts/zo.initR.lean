/-! the reference's constructor; the start -/
def pk_lyS2 : List (Nat × Nat × Nat) := [(85, 2, 120), (84, 3, 13440), (83, 3, 336), (82, 2, 6), (81, 3, 4), (80, 2, 84), (79, 3, 84), (78, 3, 336), (77, 2, 950), (76, 2, 9), (75, 2, 120), (74, 3, 13440), (73, 3, 336), (72, 5, 9), (71, 2, 950), (70, 2, 1900), (69, 2, 32), (68, 2, 12), (67, 2, 4), (66, 2, 24), (65, 2, 2), (64, 2, 700), (63, 2, 1900), (62, 2, 32), (61, 2, 12), (60, 2, 4), (59, 2, 24), (58, 1, 11), (57, 3, 4 * tq_D0 0 0), (56, 1, 5), (55, 1, 8), (54, 1, 7), (53, 2, 6), (52, 2, 40), (51, 2, 700), (50, 1, 3), (49, 2, 40), (48, 2, 700), (47, 1, 3), (46, 5, 8), (45, 2, 8), (44, 2, 8), (43, 2, 8), (42, 1, 1), (41, 2, 6), (40, 2, 6), (39, 1, 9), (38, 2, 6), (37, 2, 6), (36, 2, 6), (35, 1, 0), (34, 2, 4), (33, 2, 8), (32, 1, 4), (31, 2, 6), (30, 2, 40), (29, 2, 700), (28, 1, 3), (27, 2, 40), (26, 2, 700), (25, 1, 3), (24, 5, 8), (23, 2, 8), (22, 2, 8), (21, 2, 8), (20, 1, 1), (19, 2, 6), (18, 2, 6), (17, 1, 9), (16, 2, 6), (15, 2, 6), (14, 2, 6), (13, 1, 0), (12, 2, 4), (11, 2, 8), (10, 1, 4), (9, 2, 6), (8, 2, 84), (7, 3, 601), (6, 2, 600), (5, 3, 84), (4, 3, 336), (3, 1, 2), (2, 4, 700), (1, 1, 6), (0, 1, 10)]
def pk_lyR2 : List (Nat × Nat × Nat) := [(58, 84, 85), (58, 83, 84), (58, 82, 83), (58, 76, 82), (58, 74, 81), (58, 70, 80), (58, 68, 79), (58, 67, 78), (58, 66, 77), (58, 65, 76), (58, 64, 75), (58, 63, 74), (58, 62, 73), (58, 57, 72), (58, 56, 71), (58, 55, 70), (58, 54, 69), (58, 53, 68), (58, 52, 67), (58, 51, 66), (58, 23, 65), (58, 19, 64), (58, 18, 63), (58, 17, 62), (58, 16, 61), (58, 15, 60), (58, 14, 59), (0, 7, 56), (56, 4, 57), (0, 2, 54), (54, 1, 32), (54, 0, 55), (55, 0, 2), (0, 6, 32), (32, 7, 53), (32, 6, 50), (50, 1, 52), (50, 0, 51), (32, 5, 47), (47, 1, 49), (47, 0, 48), (32, 4, 42), (42, 3, 46), (42, 2, 45), (42, 1, 44), (42, 0, 43), (32, 3, 39), (39, 1, 41), (39, 0, 40), (32, 2, 35), (35, 2, 38), (35, 1, 37), (35, 0, 36), (32, 1, 34), (32, 0, 33), (0, 5, 10), (10, 7, 31), (10, 6, 28), (28, 1, 30), (28, 0, 29), (10, 5, 25), (25, 1, 27), (25, 0, 26), (10, 4, 20), (20, 3, 24), (20, 2, 23), (20, 1, 22), (20, 0, 21), (10, 3, 17), (17, 1, 19), (17, 0, 18), (10, 2, 13), (13, 2, 16), (13, 1, 15), (13, 0, 14), (10, 1, 12), (10, 0, 11), (0, 4, 9), (0, 3, 8), (0, 1, 3), (3, 3, 7), (3, 2, 6), (3, 1, 5), (3, 0, 4), (0, 0, 1), (1, 0, 2)]
section
variable {N z a : Nat} {Y : bk_Lay} {V : bk_Val} {Q : bk_Lay → bk_Val → Prop}
theorem in_c4 {F : bk_Val → Option (bk_Lay × bk_Val)} (hs : bk_sh Y a = (2, 4)) (H : pk_wp (F (bk_wI (bk_wI (bk_wI (bk_wI V a 0 (nI 5)) a 1 (nI 2)) a 2 (nI 1)) a 3 (nI 1))) Q) : pk_wp (bk_ck ((bk_sh Y a).1 = 2) <| bk_ck (bk_in 0 (bk_sh Y a).2) <| bk_let (bk_wI V a (0 : Int32).toNatClampNeg 5) fun V_37 => bk_ck (bk_in 1 (bk_sh Y a).2) <| bk_let (bk_wI V_37 a (1 : Int32).toNatClampNeg 2) fun V_40 => bk_ck (bk_in 2 (bk_sh Y a).2) <| bk_let (bk_wI V_40 a (2 : Int32).toNatClampNeg 1) fun V_43 => bk_ck (bk_in 3 (bk_sh Y a).2) <| bk_let (bk_wI V_43 a (3 : Int32).toNatClampNeg 1) fun V_46 => F V_46) Q := by
  simp (disch := omega) only [hs, pk_ckT, pk_bs, pk_letE, pk_bd2E, pk_bd3E, if_true, if_false, eq_self, not_true_eq_false, not_false_eq_true, true_and, and_true, Nat.not_lt_zero, Nat.zero_le, Nat.reduceEqDiff, Nat.reduceLT, Nat.reduceLeDiff, pk_ck, pk_lit, nI_clamp, pk_inE]
  exact H
set_option maxRecDepth 100000 in
theorem pr_initW (hN : 20000 ≤ N) (L0 : pk_LL z Y 59 ((58, 1, 11) :: pk_lyS) pk_lyR) (Z0 : pk_zz z 59 V) (hV : ∀ k, bk_rI V (z + 58) k = nI 0) : pk_wp (q_X12_init N Y V (z + 58)) (fun Y' V' => pk_LL z Y' 86 pk_lyS2 pk_lyR2 ∧ pk_zz z 86 V' ∧ (∀ a, a < z + 58 → V'.1 a = V.1 a ∧ V'.2 a = V.2 a) ∧ bk_rI V' (z + 58) 20 = nI 0 ∧ bk_rI V' (z + 58) 22 = -nI 1 ∧ bk_rI V' (z + 58) 69 = nI 0 ∧ bk_rI V' (z + 58) 77 = nI 0 ∧ bk_rI V' (z + 58) 61 = nI 0 ∧ (∀ k, bk_rI V' (z + 58 + 7) k = nI 0) ∧ pk_RT V' (z + 58) tq_D0 (fun _ => []) ∧ pk_RS V' (z + 58) (1000 * tq_D0 0 4, 0, 0, sp_w0 tq_D0)) := by
  unfold pk_lyS pk_lyR at L0
  unfold q_X12_init
  refine in_ck (a := 58) L0 (by decide) ?_
  rw [pk_letE, pk_letE, pk_letE, pk_letE, pk_letE, pk_letE, pk_letE, pk_letE, pk_letE]
  generalize hVa : (bk_wI (bk_wI (bk_wI (bk_wI (bk_wI (bk_wI (bk_wI (bk_wI (bk_wI V (z + 58) 1 48) (z + 58) 2 3) (z + 58) 3 60) (z + 58) 4 90) (z + 58) 5 60) (z + 58) 7 30) (z + 58) 8 50) (z + 58) 12 (-1)) (z + 58) 13 (-1)) = Va
  have ra : ∀ a, a ≠ z + 58 → Va.1 a = V.1 a := fun a ha => by rw [← hVa, pk_rowI ha, pk_rowI ha, pk_rowI ha, pk_rowI ha, pk_rowI ha, pk_rowI ha, pk_rowI ha, pk_rowI ha, pk_rowI ha]
  have la : Va.2 = V.2 := by rw [← hVa]; rfl
  have Za : pk_zz z 59 Va := fun a q => ⟨by rw [ra a (by omega)]; exact (Z0 a q).1, by rw [la]; exact (Z0 a q).2⟩
  refine in_nw L0 Za (m := 60) (sh' := (2, 24)) rfl (by decide) (fun Y1 L1 Z1 => ?_)
  refine in_ck (a := 58) L1 (by decide) ?_
  refine in_wR (a := 58) (b := 59) L1 (by decide) (by decide) (fun Y2 L2 => ?_)
  refine in_nw L2 Z1 (m := 61) (sh' := (2, 4)) rfl (by decide) (fun Y3 L3 Z3 => ?_)
  refine in_c4 (L3.shp (a := 60) (sh := (2, 4)) (by decide)) ?_
  generalize hVb : bk_wI (bk_wI (bk_wI (bk_wI Va (z + 60) 0 (nI 5)) (z + 60) 1 (nI 2)) (z + 60) 2 (nI 1)) (z + 60) 3 (nI 1) = Vb
  have rb : ∀ a, a ≠ z + 60 → Vb.1 a = Va.1 a := fun a ha => by rw [← hVb, pk_rowI ha, pk_rowI ha, pk_rowI ha, pk_rowI ha]
  have lb : Vb.2 = Va.2 := by rw [← hVb]; rfl
  have Zb : pk_zz z 61 Vb := fun a q => ⟨by rw [rb a (by omega)]; exact (Z3 a q).1, by rw [lb]; exact (Z3 a q).2⟩
  refine in_ck (a := 58) L3 (by decide) ?_
  refine in_wR (a := 58) (b := 60) L3 (by decide) (by decide) (fun Y4 L4 => ?_)
  refine in_nw L4 Zb (m := 62) (sh' := (2, 12)) rfl (by decide) (fun Y5 L5 Z5 => ?_)
  refine in_ck (a := 58) L5 (by decide) ?_
  refine in_wR (a := 58) (b := 61) L5 (by decide) (by decide) (fun Y6 L6 => ?_)
  refine in_nw L6 Z5 (m := 63) (sh' := (2, 32)) rfl (by decide) (fun Y7 L7 Z7 => ?_)
  refine in_ck (a := 58) L7 (by decide) ?_
  refine in_wR (a := 58) (b := 62) L7 (by decide) (by decide) (fun Y8 L8 => ?_)
  refine in_nw L8 Z7 (m := 64) (sh' := (2, 1900)) rfl (by decide) (fun Y9 L9 Z9 => ?_)
  refine in_ck (a := 58) L9 (by decide) ?_
  refine in_wR (a := 58) (b := 63) L9 (by decide) (by decide) (fun Y10 L10 => ?_)
  refine in_nw L10 Z9 (m := 65) (sh' := (2, 700)) rfl (by decide) (fun Y11 L11 Z11 => ?_)
  refine in_ck (a := 58) L11 (by decide) ?_
  refine in_wR (a := 58) (b := 64) L11 (by decide) (by decide) (fun Y12 L12 => ?_)
  rw [pk_letE]
  generalize hVc : bk_wI Vb (z + 58) 22 (-1) = Vc
  have rc : ∀ a, a ≠ z + 58 → Vc.1 a = Vb.1 a := fun a ha => by rw [← hVc, pk_rowI ha]
  have lc : Vc.2 = Vb.2 := by rw [← hVc]; rfl
  have Zc : pk_zz z 65 Vc := fun a q => ⟨by rw [rc a (by omega)]; exact (Z11 a q).1, by rw [lc]; exact (Z11 a q).2⟩
  refine in_nw L12 Zc (m := 66) (sh' := (2, 2)) rfl (by decide) (fun Y13 L13 Z13 => ?_)
  refine in_ck (a := 58) L13 (by decide) ?_
  refine in_wR (a := 58) (b := 65) L13 (by decide) (by decide) (fun Y14 L14 => ?_)
  refine in_nw L14 Z13 (m := 67) (sh' := (2, 24)) rfl (by decide) (fun Y15 L15 Z15 => ?_)
  refine in_ck (a := 58) L15 (by decide) ?_
  refine in_wR (a := 58) (b := 66) L15 (by decide) (by decide) (fun Y16 L16 => ?_)
  refine in_nw L16 Z15 (m := 68) (sh' := (2, 4)) rfl (by decide) (fun Y17 L17 Z17 => ?_)
  refine in_ck (a := 58) L17 (by decide) ?_
  refine in_wR (a := 58) (b := 67) L17 (by decide) (by decide) (fun Y18 L18 => ?_)
  refine in_nw L18 Z17 (m := 69) (sh' := (2, 12)) rfl (by decide) (fun Y19 L19 Z19 => ?_)
  refine in_ck (a := 58) L19 (by decide) ?_
  refine in_wR (a := 58) (b := 68) L19 (by decide) (by decide) (fun Y20 L20 => ?_)
  refine in_nw L20 Z19 (m := 70) (sh' := (2, 32)) rfl (by decide) (fun Y21 L21 Z21 => ?_)
  refine in_ck (a := 58) L21 (by decide) ?_
  refine in_wR (a := 58) (b := 69) L21 (by decide) (by decide) (fun Y22 L22 => ?_)
  refine in_nw L22 Z21 (m := 71) (sh' := (2, 1900)) rfl (by decide) (fun Y23 L23 Z23 => ?_)
  refine in_ck (a := 58) L23 (by decide) ?_
  refine in_wR (a := 58) (b := 70) L23 (by decide) (by decide) (fun Y24 L24 => ?_)
  refine in_nw L24 Z23 (m := 72) (sh' := (2, 950)) rfl (by decide) (fun Y25 L25 Z25 => ?_)
  refine in_ck (a := 58) L25 (by decide) ?_
  refine in_wR (a := 58) (b := 71) L25 (by decide) (by decide) (fun Y26 L26 => ?_)
  refine in_nw L26 Z25 (m := 73) (sh' := (5, 9)) rfl (by decide) (fun Y27 L27 Z27 => ?_)
  refine in_ck (a := 58) L27 (by decide) ?_
  refine in_wR (a := 58) (b := 72) L27 (by decide) (by decide) (fun Y28 L28 => ?_)
  refine in_nw L28 Z27 (m := 74) (sh' := (3, 336)) rfl (by decide) (fun Y29 L29 Z29 => ?_)
  refine in_ck (a := 58) L29 (by decide) ?_
  refine in_wR (a := 58) (b := 73) L29 (by decide) (by decide) (fun Y30 L30 => ?_)
  refine in_nw L30 Z29 (m := 75) (sh' := (3, 13440)) rfl (by decide) (fun Y31 L31 Z31 => ?_)
  refine in_ck (a := 58) L31 (by decide) ?_
  refine in_wR (a := 58) (b := 74) L31 (by decide) (by decide) (fun Y32 L32 => ?_)
  refine in_nw L32 Z31 (m := 76) (sh' := (2, 120)) rfl (by decide) (fun Y33 L33 Z33 => ?_)
  refine in_ck (a := 58) L33 (by decide) ?_
  refine in_wR (a := 58) (b := 75) L33 (by decide) (by decide) (fun Y34 L34 => ?_)
  refine in_nw L34 Z33 (m := 77) (sh' := (2, 9)) rfl (by decide) (fun Y35 L35 Z35 => ?_)
  refine in_ck (a := 58) L35 (by decide) ?_
  refine in_wR (a := 58) (b := 76) L35 (by decide) (by decide) (fun Y36 L36 => ?_)
  refine in_nw L36 Z35 (m := 78) (sh' := (2, 950)) rfl (by decide) (fun Y37 L37 Z37 => ?_)
  refine in_ck (a := 58) L37 (by decide) ?_
  refine in_wR (a := 58) (b := 77) L37 (by decide) (by decide) (fun Y38 L38 => ?_)
  refine in_nw L38 Z37 (m := 79) (sh' := (3, 336)) rfl (by decide) (fun Y39 L39 Z39 => ?_)
  refine in_ck (a := 58) L39 (by decide) ?_
  refine in_wR (a := 58) (b := 78) L39 (by decide) (by decide) (fun Y40 L40 => ?_)
  refine in_nw L40 Z39 (m := 80) (sh' := (3, 84)) rfl (by decide) (fun Y41 L41 Z41 => ?_)
  refine in_ck (a := 58) L41 (by decide) ?_
  refine in_wR (a := 58) (b := 79) L41 (by decide) (by decide) (fun Y42 L42 => ?_)
  refine in_nw L42 Z41 (m := 81) (sh' := (2, 84)) rfl (by decide) (fun Y43 L43 Z43 => ?_)
  refine in_ck (a := 58) L43 (by decide) ?_
  refine in_wR (a := 58) (b := 80) L43 (by decide) (by decide) (fun Y44 L44 => ?_)
  refine in_nw L44 Z43 (m := 82) (sh' := (3, 4)) rfl (by decide) (fun Y45 L45 Z45 => ?_)
  refine in_ck (a := 58) L45 (by decide) ?_
  refine in_wR (a := 58) (b := 81) L45 (by decide) (by decide) (fun Y46 L46 => ?_)
  refine in_nw L46 Z45 (m := 83) (sh' := (2, 6)) rfl (by decide) (fun Y47 L47 Z47 => ?_)
  refine in_ck (a := 58) L47 (by decide) ?_
  refine in_wR (a := 58) (b := 82) L47 (by decide) (by decide) (fun Y48 L48 => ?_)
  refine in_nw L48 Z47 (m := 84) (sh' := (3, 336)) rfl (by decide) (fun Y49 L49 Z49 => ?_)
  refine in_ck (a := 58) L49 (by decide) ?_
  refine in_wR (a := 58) (b := 83) L49 (by decide) (by decide) (fun Y50 L50 => ?_)
  refine in_nw L50 Z49 (m := 85) (sh' := (3, 13440)) rfl (by decide) (fun Y51 L51 Z51 => ?_)
  refine in_ck (a := 58) L51 (by decide) ?_
  refine in_wR (a := 58) (b := 84) L51 (by decide) (by decide) (fun Y52 L52 => ?_)
  refine in_nw L52 Z51 (m := 86) (sh' := (2, 120)) rfl (by decide) (fun Y53 L53 Z53 => ?_)
  refine in_ck (a := 58) L53 (by decide) ?_
  refine in_wR (a := 58) (b := 85) L53 (by decide) (by decide) (fun Y54 L54 => ?_)
  have hRf : pk_Rf _ (z + 58) := ⟨L54.shp (a := 58) (sh := (1, 11)) (by decide), L54.rr (a := 58) (k := 14) (b := 59) (by decide), L54.rr (a := 58) (k := 15) (b := 60) (by decide), L54.rr (a := 58) (k := 16) (b := 61) (by decide), L54.rr (a := 58) (k := 17) (b := 62) (by decide), L54.rr (a := 58) (k := 18) (b := 63) (by decide), L54.rr (a := 58) (k := 19) (b := 64) (by decide), L54.rr (a := 58) (k := 23) (b := 65) (by decide), L54.rr (a := 58) (k := 51) (b := 66) (by decide), L54.rr (a := 58) (k := 52) (b := 67) (by decide), L54.rr (a := 58) (k := 53) (b := 68) (by decide), L54.rr (a := 58) (k := 54) (b := 69) (by decide), L54.rr (a := 58) (k := 55) (b := 70) (by decide), L54.rr (a := 58) (k := 56) (b := 71) (by decide), L54.rr (a := 58) (k := 57) (b := 72) (by decide), L54.rr (a := 58) (k := 62) (b := 73) (by decide), L54.rr (a := 58) (k := 63) (b := 74) (by decide), L54.rr (a := 58) (k := 64) (b := 75) (by decide), L54.rr (a := 58) (k := 65) (b := 76) (by decide), L54.rr (a := 58) (k := 66) (b := 77) (by decide), L54.rr (a := 58) (k := 67) (b := 78) (by decide), L54.rr (a := 58) (k := 68) (b := 79) (by decide), L54.rr (a := 58) (k := 70) (b := 80) (by decide), L54.rr (a := 58) (k := 74) (b := 81) (by decide), L54.rr (a := 58) (k := 76) (b := 82) (by decide), L54.rr (a := 58) (k := 82) (b := 83) (by decide), L54.rr (a := 58) (k := 83) (b := 84) (by decide), L54.rr (a := 58) (k := 84) (b := 85) (by decide), L54.shp (a := 59) (sh := (2, 24)) (by decide), L54.shp (a := 60) (sh := (2, 4)) (by decide), L54.shp (a := 61) (sh := (2, 12)) (by decide), L54.shp (a := 62) (sh := (2, 32)) (by decide), L54.shp (a := 63) (sh := (2, 1900)) (by decide), L54.shp (a := 64) (sh := (2, 700)) (by decide), L54.shp (a := 65) (sh := (2, 2)) (by decide), L54.shp (a := 66) (sh := (2, 24)) (by decide), L54.shp (a := 67) (sh := (2, 4)) (by decide), L54.shp (a := 68) (sh := (2, 12)) (by decide), L54.shp (a := 69) (sh := (2, 32)) (by decide), L54.shp (a := 70) (sh := (2, 1900)) (by decide), L54.shp (a := 71) (sh := (2, 950)) (by decide), L54.shp (a := 72) (sh := (5, 9)) (by decide), L54.shp (a := 73) (sh := (3, 336)) (by decide), L54.shp (a := 74) (sh := (3, 13440)) (by decide), L54.shp (a := 75) (sh := (2, 120)) (by decide), L54.shp (a := 76) (sh := (2, 9)) (by decide), L54.shp (a := 77) (sh := (2, 950)) (by decide), L54.shp (a := 78) (sh := (3, 336)) (by decide), L54.shp (a := 79) (sh := (3, 84)) (by decide), L54.shp (a := 80) (sh := (2, 84)) (by decide), L54.shp (a := 81) (sh := (3, 4)) (by decide), L54.shp (a := 82) (sh := (2, 6)) (by decide), L54.shp (a := 83) (sh := (3, 336)) (by decide), L54.shp (a := 84) (sh := (3, 13440)) (by decide), L54.shp (a := 85) (sh := (2, 120)) (by decide)⟩
  have s0 : ∀ k, k ≠ 22 → bk_rI Vc (z + 58) k = bk_rI Va (z + 58) k := fun k q => by rw [← hVc, pk_rI_same, if_neg q]; exact congrFun (rb _ (by omega)) k
  have sa : ∀ k, (k = 0 ∨ k = 6 ∨ (8 < k ∧ k < 12) ∨ 13 < k) → bk_rI Va (z + 58) k = nI 0 := fun k q => by
    rw [← hVa, pk_rI_same, if_neg (by omega), pk_rI_same, if_neg (by omega), pk_rI_same, if_neg (by omega), pk_rI_same, if_neg (by omega), pk_rI_same, if_neg (by omega), pk_rI_same, if_neg (by omega), pk_rI_same, if_neg (by omega), pk_rI_same, if_neg (by omega), pk_rI_same, if_neg (by omega)]
    exact hV k
  have rt : pk_RT Vc (z + 58) tq_D0 (fun _ => []) := by
    refine ⟨⟨?_, ?_, ?_, ?_, ?_, (s0 6 (by omega)).trans (sa 6 (by omega)), ?_, ?_, (s0 9 (by omega)).trans (sa 9 (by omega)), (s0 10 (by omega)).trans (sa 10 (by omega)), (s0 11 (by omega)).trans (sa 11 (by omega))⟩, fun k hk => ?_, fun k hk => absurd hk (Nat.not_lt_zero k), fun k hk => absurd hk (Nat.not_lt_zero k), fun k hk => absurd hk (Nat.not_lt_zero k), Or.inl ⟨rfl, ?_⟩, Or.inl ⟨rfl, ?_⟩⟩
    · rw [s0 _ (by omega), ← hVa]; simp (disch := omega) only [pk_rI_same, pk_rI_ne, pk_rI_wL, pk_rL_wI, pk_rL_same, pk_rL_ne, pk_ckT, pk_bs, pk_letE, pk_bd2E, pk_bd3E, if_true, if_false, eq_self, not_true_eq_false, not_false_eq_true, true_and, and_true, Nat.not_lt_zero, Nat.zero_le, Nat.reduceEqDiff, Nat.reduceLT, Nat.reduceLeDiff, pk_ck]; rfl
    · rw [s0 _ (by omega), ← hVa]; simp (disch := omega) only [pk_rI_same, pk_rI_ne, pk_rI_wL, pk_rL_wI, pk_rL_same, pk_rL_ne, pk_ckT, pk_bs, pk_letE, pk_bd2E, pk_bd3E, if_true, if_false, eq_self, not_true_eq_false, not_false_eq_true, true_and, and_true, Nat.not_lt_zero, Nat.zero_le, Nat.reduceEqDiff, Nat.reduceLT, Nat.reduceLeDiff, pk_ck]; rfl
    · rw [s0 _ (by omega), ← hVa]; simp (disch := omega) only [pk_rI_same, pk_rI_ne, pk_rI_wL, pk_rL_wI, pk_rL_same, pk_rL_ne, pk_ckT, pk_bs, pk_letE, pk_bd2E, pk_bd3E, if_true, if_false, eq_self, not_true_eq_false, not_false_eq_true, true_and, and_true, Nat.not_lt_zero, Nat.zero_le, Nat.reduceEqDiff, Nat.reduceLT, Nat.reduceLeDiff, pk_ck]; rfl
    · rw [s0 _ (by omega), ← hVa]; simp (disch := omega) only [pk_rI_same, pk_rI_ne, pk_rI_wL, pk_rL_wI, pk_rL_same, pk_rL_ne, pk_ckT, pk_bs, pk_letE, pk_bd2E, pk_bd3E, if_true, if_false, eq_self, not_true_eq_false, not_false_eq_true, true_and, and_true, Nat.not_lt_zero, Nat.zero_le, Nat.reduceEqDiff, Nat.reduceLT, Nat.reduceLeDiff, pk_ck]; rfl
    · rw [s0 _ (by omega), ← hVa]; simp (disch := omega) only [pk_rI_same, pk_rI_ne, pk_rI_wL, pk_rL_wI, pk_rL_same, pk_rL_ne, pk_ckT, pk_bs, pk_letE, pk_bd2E, pk_bd3E, if_true, if_false, eq_self, not_true_eq_false, not_false_eq_true, true_and, and_true, Nat.not_lt_zero, Nat.zero_le, Nat.reduceEqDiff, Nat.reduceLT, Nat.reduceLeDiff, pk_ck]; rfl
    · rw [s0 _ (by omega), ← hVa]; simp (disch := omega) only [pk_rI_same, pk_rI_ne, pk_rI_wL, pk_rL_wI, pk_rL_same, pk_rL_ne, pk_ckT, pk_bs, pk_letE, pk_bd2E, pk_bd3E, if_true, if_false, eq_self, not_true_eq_false, not_false_eq_true, true_and, and_true, Nat.not_lt_zero, Nat.zero_le, Nat.reduceEqDiff, Nat.reduceLT, Nat.reduceLeDiff, pk_ck]; rfl
    · rw [s0 _ (by omega), ← hVa]; simp (disch := omega) only [pk_rI_same, pk_rI_ne, pk_rI_wL, pk_rL_wI, pk_rL_same, pk_rL_ne, pk_ckT, pk_bs, pk_letE, pk_bd2E, pk_bd3E, if_true, if_false, eq_self, not_true_eq_false, not_false_eq_true, true_and, and_true, Nat.not_lt_zero, Nat.zero_le, Nat.reduceEqDiff, Nat.reduceLT, Nat.reduceLeDiff, pk_ck]; rfl
    · rw [show bk_rI Vc (z + 58 + 2) k = bk_rI Vb (z + 60) k from congrFun (rc _ (by omega)) k, ← hVb]
      rcases (show k = 0 ∨ k = 1 ∨ k = 2 ∨ k = 3 by omega) with q | q | q | q <;> subst q <;> simp (disch := omega) only [pk_rI_same, pk_rI_ne, pk_rI_wL, pk_rL_wI, pk_rL_same, pk_rL_ne, pk_ckT, pk_bs, pk_letE, pk_bd2E, pk_bd3E, if_true, if_false, eq_self, not_true_eq_false, not_false_eq_true, true_and, and_true, Nat.not_lt_zero, Nat.zero_le, Nat.reduceEqDiff, Nat.reduceLT, Nat.reduceLeDiff, pk_ck, Nat.succ_ne_zero] <;> rfl
    · rw [s0 _ (by omega), ← hVa]; simp (disch := omega) only [pk_rI_same, pk_rI_ne, pk_rI_wL, pk_rL_wI, pk_rL_same, pk_rL_ne, pk_ckT, pk_bs, pk_letE, pk_bd2E, pk_bd3E, if_true, if_false, eq_self, not_true_eq_false, not_false_eq_true, true_and, and_true, Nat.not_lt_zero, Nat.zero_le, Nat.reduceEqDiff, Nat.reduceLT, Nat.reduceLeDiff, pk_ck]; rfl
    · rw [s0 _ (by omega), ← hVa]; simp (disch := omega) only [pk_rI_same, pk_rI_ne, pk_rI_wL, pk_rL_wI, pk_rL_same, pk_rL_ne, pk_ckT, pk_bs, pk_letE, pk_bd2E, pk_bd3E, if_true, if_false, eq_self, not_true_eq_false, not_false_eq_true, true_and, and_true, Nat.not_lt_zero, Nat.zero_le, Nat.reduceEqDiff, Nat.reduceLT, Nat.reduceLeDiff, pk_ck]; rfl
  obtain ⟨Vd, e1, e2, e3, e4, e5, e6⟩ := pr_anew (N := N) (by omega) hRf rt tq_D0_b
  rw [e1, pk_bs]
  refine in_end ⟨L54, fun a q => ⟨?_, ?_⟩, fun a q => ⟨?_, ?_⟩, ?_, ?_, ?_, ?_, e3, fun k => ?_, rt.of (fun a q1 q2 => e4 a (by omega)) (fun k q1 q2 => e5 k (by omega)), e2⟩
  · rw [e4 a (by omega)]; exact (Z53 a q).1
  · rw [e6 a (by omega)]; exact (Z53 a q).2
  · rw [e4 a (by omega), rc a (by omega), rb a (by omega), ra a (by omega)]
  · rw [e6 a (by omega), lc, lb, la]
  · rw [e5 20 (by omega), s0 20 (by omega)]; exact sa 20 (by omega)
  · rw [e5 22 (by omega), ← hVc, pk_rI_same, if_pos rfl]; rfl
  · rw [e5 69 (by omega), s0 69 (by omega)]; exact sa 69 (by omega)
  · rw [e5 77 (by omega), s0 77 (by omega)]; exact sa 77 (by omega)
  · rw [show bk_rI Vd (z + 58 + 7) k = bk_rI V (z + 58 + 7) k from congrFun (show Vd.1 (z + 58 + 7) = V.1 (z + 58 + 7) by rw [e4 _ (by omega), rc _ (by omega), rb _ (by omega), ra _ (by omega)]) k]
    exact congrFun (Z0 (z + 58 + 7) (by omega)).1 k
theorem pk_lyI : (∀ e ∈ pk_shL, e ∈ (86, 3, 1) :: pk_lyS2) ∧ (∀ e ∈ pk_rfL, e ∈ pk_lyR2) := by decide +kernel
theorem bk_initP (hN : 20000 ≤ N) : bk_init N z z (z + 58) (z + 86) (pk_IA z) := by
  obtain ⟨Y1, V1, a1, L1, Z1, t1, v12, vz, v1, v3, w1, w2, w3, w4⟩ := pc_initW (N := N) (z := z) hN
  have s1 : bk_sz Y1 = z + 58 := L1.1
  have nz1 : bk_nz Y1 V1 = V1 := pk_nzE (Z1 _ (by rw [s1]; exact Nat.le_refl _))
  have LB : pk_LL z (bk_nw Y1 (1, 11)) 59 ((58, 1, 11) :: pk_lyS) pk_lyR := L1.nw
  obtain ⟨Y2, V2, b1, L2, Z2, b2, b20, b22, b69, b77, b61, b7, bT, bS⟩ := pr_initW (N := N) hN LB (fun a q => Z1 a (by omega)) (fun k => congrFun (Z1 (z + 58) (Nat.le_refl _)).1 k)
  have s2 : bk_sz Y2 = z + 86 := L2.1
  have nz2 : bk_nz Y2 V2 = V2 := pk_nzE (Z2 _ (by rw [s2]; exact Nat.le_refl _))
  have L3 : pk_LL z (bk_nw Y2 (3, 1)) 87 ((86, 3, 1) :: pk_lyS2) pk_lyR2 := L2.nw
  refine ⟨rfl, Y1, V1, a1, s1.symm, Y2, V2, by rw [nz1]; exact b1, s2.symm, ?_⟩
  rw [nz2]
  have hF : pk_Fix z (bk_nw Y2 (3, 1)) := ⟨fun e he => (L3.2.1 e (pk_lyI.1 e he)).2, fun e he => (L3.2.2.1 e (pk_lyI.2 e he)).2, by rw [L3.1]; exact Nat.le_refl _⟩
  have r2 : ∀ a k, a < z + 58 → bk_rI V2 a k = bk_rI V1 a k := fun a k ha => congrFun (b2 a ha).1 k
  refine ⟨(tq_D0, (fun _ => []), (fun _ => 0), 0, (1000 * tq_D0 0 4, 0, 0, sp_w0 tq_D0), [], none, none, -nI 1, nI 0, nI 0), ⟨z + 10, z + 32, z + 56, hF, Or.inl ⟨rfl, rfl⟩, ⟨L3.rr (a := 0) (k := 5) (b := 10) (by decide +kernel), L3.rr (a := 0) (k := 6) (b := 32) (by decide +kernel), L3.rr (a := 0) (k := 7) (b := 56) (by decide +kernel)⟩, t1.of (fun a q1 q2 _ => (b2 a (by omega)).1), ⟨?_, fun j hj => absurd hj (Nat.not_lt_zero j)⟩, ⟨⟨Or.inl rfl, by rw [L3.1]; omega⟩, L3.shp (a := 56) (sh := (1, 5)) (by decide +kernel), ?_, ?_, ?_, z + 57, L3.rr (a := 56) (k := 4) (b := 57) (by decide +kernel), ⟨Or.inr (Or.inl rfl), by rw [L3.1]; omega⟩, L3.shp (a := 57) (sh := (3, 4 * tq_D0 0 0)) (by decide +kernel), fun p hp => ?_⟩, ?_, ?_, ?_, ⟨?_, ?_, ?_⟩, Or.inl ?_⟩, ⟨bT, ⟨b20, fun j hj => absurd hj (Nat.not_lt_zero j)⟩, bS, b61, trivial, b77, b69, b22, b7 0, b7 1⟩, tq_D0_b, ⟨Nat.zero_le _, fun _ => by show 0 < 256; omega⟩, ⟨⟨by decide, by show 0 < 64; omega, fun p => sp_w0_le tq_D0_b, fun p hp => ?_⟩, fun g hg => absurd hg List.not_mem_nil, Nat.zero_le _⟩, fun g hg => by cases hg⟩
  · rw [r2 _ _ (by omega)]; exact v1 1
  · rw [r2 _ _ (by omega)]; exact w1
  · rw [r2 _ _ (by omega)]; exact w2
  · rw [r2 _ _ (by omega)]; exact w3
  · rw [show bk_rL V2 (z + 57) p = bk_rL V1 (z + 57) p from congrFun (b2 (z + 57) (by omega)).2 p]; exact w4 p hp
  · rw [r2 _ _ (by omega)]; exact vz 8 (by omega)
  · exact L3.2.2.2 z 9 (fun e he g => absurd he (by
      have : ∀ e ∈ pk_lyR2, ¬ (e.1 = 0 ∧ e.2.1 = 9) := by decide +kernel
      exact fun h => this e h ⟨by omega, g.2.symm⟩))
  · show bk_rI V2 z 11 = nI 0
    rw [r2 _ _ (by omega)]; exact vz 11 (by omega)
  · rw [r2 _ _ (by omega)]; exact v12
  · rw [r2 _ _ (by omega)]; exact vz 13 (by omega)
  · rw [r2 _ _ (by omega)]; exact vz 14 (by omega)
  · rw [r2 _ _ (by omega)]; exact v3 6
  · show sp_w0 tq_D0 p = 0
    have hp' : 4 * tq_D0 0 0 ≤ p := hp
    unfold sp_w0
    rw [if_neg (by omega)]
end
