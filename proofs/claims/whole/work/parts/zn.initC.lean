/-! the class's constructor -/
def pk_lyS : List (Nat × Nat × Nat) := [(57, 3, 4 * tq_D0 0 0), (56, 1, 5), (55, 1, 8), (54, 1, 7), (53, 2, 6), (52, 2, 40), (51, 2, 700), (50, 1, 3), (49, 2, 40), (48, 2, 700), (47, 1, 3), (46, 5, 8), (45, 2, 8), (44, 2, 8), (43, 2, 8), (42, 1, 1), (41, 2, 6), (40, 2, 6), (39, 1, 9), (38, 2, 6), (37, 2, 6), (36, 2, 6), (35, 1, 0), (34, 2, 4), (33, 2, 8), (32, 1, 4), (31, 2, 6), (30, 2, 40), (29, 2, 700), (28, 1, 3), (27, 2, 40), (26, 2, 700), (25, 1, 3), (24, 5, 8), (23, 2, 8), (22, 2, 8), (21, 2, 8), (20, 1, 1), (19, 2, 6), (18, 2, 6), (17, 1, 9), (16, 2, 6), (15, 2, 6), (14, 2, 6), (13, 1, 0), (12, 2, 4), (11, 2, 8), (10, 1, 4), (9, 2, 6), (8, 2, 84), (7, 3, 601), (6, 2, 600), (5, 3, 84), (4, 3, 336), (3, 1, 2), (2, 4, 700), (1, 1, 6), (0, 1, 10)]
def pk_lyR : List (Nat × Nat × Nat) := [(0, 7, 56), (56, 4, 57), (0, 2, 54), (54, 1, 32), (54, 0, 55), (55, 0, 2), (0, 6, 32), (32, 7, 53), (32, 6, 50), (50, 1, 52), (50, 0, 51), (32, 5, 47), (47, 1, 49), (47, 0, 48), (32, 4, 42), (42, 3, 46), (42, 2, 45), (42, 1, 44), (42, 0, 43), (32, 3, 39), (39, 1, 41), (39, 0, 40), (32, 2, 35), (35, 2, 38), (35, 1, 37), (35, 0, 36), (32, 1, 34), (32, 0, 33), (0, 5, 10), (10, 7, 31), (10, 6, 28), (28, 1, 30), (28, 0, 29), (10, 5, 25), (25, 1, 27), (25, 0, 26), (10, 4, 20), (20, 3, 24), (20, 2, 23), (20, 1, 22), (20, 0, 21), (10, 3, 17), (17, 1, 19), (17, 0, 18), (10, 2, 13), (13, 2, 16), (13, 1, 15), (13, 0, 14), (10, 1, 12), (10, 0, 11), (0, 4, 9), (0, 3, 8), (0, 1, 3), (3, 3, 7), (3, 2, 6), (3, 1, 5), (3, 0, 4), (0, 0, 1), (1, 0, 2)]
section
variable {N z : Nat}
set_option maxRecDepth 100000 in
theorem pc_initW (hN : 20000 ≤ N) : pk_wp (q_X11_init N (bk_nw (bk_Y0 z) (1, 10)) (bk_nz (bk_Y0 z) bk_V0) z) (fun Y V => pk_LL z Y 58 pk_lyS pk_lyR ∧ pk_zz z 58 V ∧ pk_CT V (z + 10) tq_D0 (fun _ => []) ∧ bk_rI V z 12 = -nI 1 ∧ (∀ k, k ≠ 12 → bk_rI V z k = nI 0) ∧ (∀ k, bk_rI V (z + 1) k = nI 0) ∧ (∀ k, bk_rI V (z + 3) k = nI 0) ∧ bk_rI V (z + 56) 1 = nI (1000 * tq_D0 0 4) ∧ bk_rI V (z + 56) 2 = nI 0 ∧ bk_rI V (z + 56) 3 = nI 0 ∧ ∀ j, j < 4 * tq_D0 0 0 → bk_rL V (z + 57) j = lN (sp_w0 tq_D0 j)) := by
  have Lb : pk_LL z (bk_Y0 z) 0 [] [] := ⟨rfl, fun e he => absurd he List.not_mem_nil, fun e he => absurd he List.not_mem_nil, fun a k _ => rfl⟩
  have Z0 : pk_zz z 1 bk_V0 := fun a _ => ⟨rfl, rfl⟩
  rw [pk_nzE (Y := bk_Y0 z) (V := bk_V0) ⟨rfl, rfl⟩]
  have L0 : pk_LL z (bk_nw (bk_Y0 z) (1, 10)) 1 [(0, 1, 10)] [] := Lb.nw
  generalize bk_nw (bk_Y0 z) (1, 10) = Y0 at L0 ⊢
  unfold q_X11_init
  refine in_nw L0 Z0 (m := 2) (sh' := (1, 6)) rfl (by decide) (fun Y1 L1 Z1 => ?_)
  refine in_bd ?_
  try unfold q_X7_init
  refine in_nw L1 Z1 (m := 3) (sh' := (4, 700)) rfl (by decide) (fun Y2 L2 Z2 => ?_)
  refine in_ck (a := 1) L2 (by decide) ?_
  refine in_wR (a := 1) (b := 2) L2 (by decide) (by decide) (fun Y3 L3 => ?_)
  refine in_end ?_
  refine in_ck (a := 0) L3 (by decide) ?_
  refine in_wR (a := 0) (b := 1) L3 (by decide) (by decide) (fun Y4 L4 => ?_)
  refine in_nw L4 Z2 (m := 4) (sh' := (1, 2)) rfl (by decide) (fun Y5 L5 Z5 => ?_)
  refine in_bd ?_
  try unfold q_X3_init
  refine in_nw L5 Z5 (m := 5) (sh' := (3, 336)) rfl (by decide) (fun Y6 L6 Z6 => ?_)
  refine in_ck (a := 3) L6 (by decide) ?_
  refine in_wR (a := 3) (b := 4) L6 (by decide) (by decide) (fun Y7 L7 => ?_)
  refine in_nw L7 Z6 (m := 6) (sh' := (3, 84)) rfl (by decide) (fun Y8 L8 Z8 => ?_)
  refine in_ck (a := 3) L8 (by decide) ?_
  refine in_wR (a := 3) (b := 5) L8 (by decide) (by decide) (fun Y9 L9 => ?_)
  refine in_nw L9 Z8 (m := 7) (sh' := (2, 600)) rfl (by decide) (fun Y10 L10 Z10 => ?_)
  refine in_ck (a := 3) L10 (by decide) ?_
  refine in_wR (a := 3) (b := 6) L10 (by decide) (by decide) (fun Y11 L11 => ?_)
  refine in_nw L11 Z10 (m := 8) (sh' := (3, 601)) rfl (by decide) (fun Y12 L12 Z12 => ?_)
  refine in_ck (a := 3) L12 (by decide) ?_
  refine in_wR (a := 3) (b := 7) L12 (by decide) (by decide) (fun Y13 L13 => ?_)
  refine in_end ?_
  refine in_ck (a := 0) L13 (by decide) ?_
  refine in_wR (a := 0) (b := 3) L13 (by decide) (by decide) (fun Y14 L14 => ?_)
  refine in_nw L14 Z12 (m := 9) (sh' := (2, 84)) rfl (by decide) (fun Y15 L15 Z15 => ?_)
  refine in_ck (a := 0) L15 (by decide) ?_
  refine in_wR (a := 0) (b := 8) L15 (by decide) (by decide) (fun Y16 L16 => ?_)
  refine in_nw L16 Z15 (m := 10) (sh' := (2, 6)) rfl (by decide) (fun Y17 L17 Z17 => ?_)
  refine in_ck (a := 0) L17 (by decide) ?_
  refine in_wR (a := 0) (b := 9) L17 (by decide) (by decide) (fun Y18 L18 => ?_)
  refine in_nw L18 Z17 (m := 11) (sh' := (1, 4)) rfl (by decide) (fun Y19 L19 Z19 => ?_)
  refine in_bd ?_
  try unfold q_X5_init
  refine in_nw L19 Z19 (m := 12) (sh' := (2, 8)) rfl (by decide) (fun Y20 L20 Z20 => ?_)
  refine in_ck (a := 10) L20 (by decide) ?_
  refine in_wR (a := 10) (b := 11) L20 (by decide) (by decide) (fun Y21 L21 => ?_)
  refine in_nw L21 Z20 (m := 13) (sh' := (2, 4)) rfl (by decide) (fun Y22 L22 Z22 => ?_)
  refine in_ck (a := 10) L22 (by decide) ?_
  refine in_wR (a := 10) (b := 12) L22 (by decide) (by decide) (fun Y23 L23 => ?_)
  refine in_nw L23 Z22 (m := 14) (sh' := (1, 0)) rfl (by decide) (fun Y24 L24 Z24 => ?_)
  refine in_bd ?_
  try unfold q_X1_init
  refine in_nw L24 Z24 (m := 15) (sh' := (2, 6)) rfl (by decide) (fun Y25 L25 Z25 => ?_)
  refine in_ck (a := 13) L25 (by decide) ?_
  refine in_wR (a := 13) (b := 14) L25 (by decide) (by decide) (fun Y26 L26 => ?_)
  refine in_nw L26 Z25 (m := 16) (sh' := (2, 6)) rfl (by decide) (fun Y27 L27 Z27 => ?_)
  refine in_ck (a := 13) L27 (by decide) ?_
  refine in_wR (a := 13) (b := 15) L27 (by decide) (by decide) (fun Y28 L28 => ?_)
  refine in_nw L28 Z27 (m := 17) (sh' := (2, 6)) rfl (by decide) (fun Y29 L29 Z29 => ?_)
  refine in_ck (a := 13) L29 (by decide) ?_
  refine in_wR (a := 13) (b := 16) L29 (by decide) (by decide) (fun Y30 L30 => ?_)
  refine in_end ?_
  refine in_ck (a := 10) L30 (by decide) ?_
  refine in_wR (a := 10) (b := 13) L30 (by decide) (by decide) (fun Y31 L31 => ?_)
  refine in_nw L31 Z29 (m := 18) (sh' := (1, 9)) rfl (by decide) (fun Y32 L32 Z32 => ?_)
  refine in_bd ?_
  try unfold q_X10_init
  refine in_nw L32 Z32 (m := 19) (sh' := (2, 6)) rfl (by decide) (fun Y33 L33 Z33 => ?_)
  refine in_ck (a := 17) L33 (by decide) ?_
  refine in_wR (a := 17) (b := 18) L33 (by decide) (by decide) (fun Y34 L34 => ?_)
  refine in_nw L34 Z33 (m := 20) (sh' := (2, 6)) rfl (by decide) (fun Y35 L35 Z35 => ?_)
  refine in_ck (a := 17) L35 (by decide) ?_
  refine in_wR (a := 17) (b := 19) L35 (by decide) (by decide) (fun Y36 L36 => ?_)
  refine in_end ?_
  refine in_ck (a := 10) L36 (by decide) ?_
  refine in_wR (a := 10) (b := 17) L36 (by decide) (by decide) (fun Y37 L37 => ?_)
  refine in_nw L37 Z35 (m := 21) (sh' := (1, 1)) rfl (by decide) (fun Y38 L38 Z38 => ?_)
  refine in_bd ?_
  try unfold q_X2_init
  refine in_nw L38 Z38 (m := 22) (sh' := (2, 8)) rfl (by decide) (fun Y39 L39 Z39 => ?_)
  refine in_ck (a := 20) L39 (by decide) ?_
  refine in_wR (a := 20) (b := 21) L39 (by decide) (by decide) (fun Y40 L40 => ?_)
  refine in_nw L40 Z39 (m := 23) (sh' := (2, 8)) rfl (by decide) (fun Y41 L41 Z41 => ?_)
  refine in_ck (a := 20) L41 (by decide) ?_
  refine in_wR (a := 20) (b := 22) L41 (by decide) (by decide) (fun Y42 L42 => ?_)
  refine in_nw L42 Z41 (m := 24) (sh' := (2, 8)) rfl (by decide) (fun Y43 L43 Z43 => ?_)
  refine in_ck (a := 20) L43 (by decide) ?_
  refine in_wR (a := 20) (b := 23) L43 (by decide) (by decide) (fun Y44 L44 => ?_)
  refine in_nw L44 Z43 (m := 25) (sh' := (5, 8)) rfl (by decide) (fun Y45 L45 Z45 => ?_)
  refine in_ck (a := 20) L45 (by decide) ?_
  refine in_wR (a := 20) (b := 24) L45 (by decide) (by decide) (fun Y46 L46 => ?_)
  refine in_end ?_
  refine in_ck (a := 10) L46 (by decide) ?_
  refine in_wR (a := 10) (b := 20) L46 (by decide) (by decide) (fun Y47 L47 => ?_)
  refine in_nw L47 Z45 (m := 26) (sh' := (1, 3)) rfl (by decide) (fun Y48 L48 Z48 => ?_)
  refine in_bd ?_
  try unfold q_X4_init
  refine in_nw L48 Z48 (m := 27) (sh' := (2, 700)) rfl (by decide) (fun Y49 L49 Z49 => ?_)
  refine in_ck (a := 25) L49 (by decide) ?_
  refine in_wR (a := 25) (b := 26) L49 (by decide) (by decide) (fun Y50 L50 => ?_)
  refine in_nw L50 Z49 (m := 28) (sh' := (2, 40)) rfl (by decide) (fun Y51 L51 Z51 => ?_)
  refine in_ck (a := 25) L51 (by decide) ?_
  refine in_wR (a := 25) (b := 27) L51 (by decide) (by decide) (fun Y52 L52 => ?_)
  refine in_end ?_
  refine in_ck (a := 10) L52 (by decide) ?_
  refine in_wR (a := 10) (b := 25) L52 (by decide) (by decide) (fun Y53 L53 => ?_)
  refine in_nw L53 Z51 (m := 29) (sh' := (1, 3)) rfl (by decide) (fun Y54 L54 Z54 => ?_)
  refine in_bd ?_
  try unfold q_X4_init
  refine in_nw L54 Z54 (m := 30) (sh' := (2, 700)) rfl (by decide) (fun Y55 L55 Z55 => ?_)
  refine in_ck (a := 28) L55 (by decide) ?_
  refine in_wR (a := 28) (b := 29) L55 (by decide) (by decide) (fun Y56 L56 => ?_)
  refine in_nw L56 Z55 (m := 31) (sh' := (2, 40)) rfl (by decide) (fun Y57 L57 Z57 => ?_)
  refine in_ck (a := 28) L57 (by decide) ?_
  refine in_wR (a := 28) (b := 30) L57 (by decide) (by decide) (fun Y58 L58 => ?_)
  refine in_end ?_
  refine in_ck (a := 10) L58 (by decide) ?_
  refine in_wR (a := 10) (b := 28) L58 (by decide) (by decide) (fun Y59 L59 => ?_)
  refine in_nw L59 Z57 (m := 32) (sh' := (2, 6)) rfl (by decide) (fun Y60 L60 Z60 => ?_)
  refine in_ck (a := 10) L60 (by decide) ?_
  refine in_wR (a := 10) (b := 31) L60 (by decide) (by decide) (fun Y61 L61 => ?_)
  have S10 : pk_Sd _ (z + 10) := ⟨L61.shp (a := 10) (sh := (1, 4)) (by decide), L61.rr (a := 10) (k := 0) (b := 11) (by decide), L61.rr (a := 10) (k := 1) (b := 12) (by decide), L61.rr (a := 10) (k := 2) (b := 13) (by decide), L61.rr (a := 10) (k := 3) (b := 17) (by decide), L61.rr (a := 10) (k := 4) (b := 20) (by decide), L61.rr (a := 10) (k := 5) (b := 25) (by decide), L61.rr (a := 10) (k := 6) (b := 28) (by decide), L61.rr (a := 10) (k := 7) (b := 31) (by decide), L61.shp (a := 11) (sh := (2, 8)) (by decide), L61.shp (a := 12) (sh := (2, 4)) (by decide), L61.shp (a := 13) (sh := (1, 0)) (by decide), L61.rr (a := 13) (k := 0) (b := 14) (by decide), L61.rr (a := 13) (k := 1) (b := 15) (by decide), L61.rr (a := 13) (k := 2) (b := 16) (by decide), L61.shp (a := 14) (sh := (2, 6)) (by decide), L61.shp (a := 15) (sh := (2, 6)) (by decide), L61.shp (a := 16) (sh := (2, 6)) (by decide), L61.shp (a := 17) (sh := (1, 9)) (by decide), L61.rr (a := 17) (k := 0) (b := 18) (by decide), L61.rr (a := 17) (k := 1) (b := 19) (by decide), L61.shp (a := 18) (sh := (2, 6)) (by decide), L61.shp (a := 19) (sh := (2, 6)) (by decide), L61.shp (a := 20) (sh := (1, 1)) (by decide), L61.rr (a := 20) (k := 0) (b := 21) (by decide), L61.rr (a := 20) (k := 1) (b := 22) (by decide), L61.rr (a := 20) (k := 2) (b := 23) (by decide), L61.rr (a := 20) (k := 3) (b := 24) (by decide), L61.shp (a := 21) (sh := (2, 8)) (by decide), L61.shp (a := 22) (sh := (2, 8)) (by decide), L61.shp (a := 23) (sh := (2, 8)) (by decide), L61.shp (a := 24) (sh := (5, 8)) (by decide), L61.shp (a := 25) (sh := (1, 3)) (by decide), L61.rr (a := 25) (k := 0) (b := 26) (by decide), L61.rr (a := 25) (k := 1) (b := 27) (by decide), L61.shp (a := 26) (sh := (2, 700)) (by decide), L61.shp (a := 27) (sh := (2, 40)) (by decide), L61.shp (a := 28) (sh := (1, 3)) (by decide), L61.rr (a := 28) (k := 0) (b := 29) (by decide), L61.rr (a := 28) (k := 1) (b := 30) (by decide), L61.shp (a := 29) (sh := (2, 700)) (by decide), L61.shp (a := 30) (sh := (2, 40)) (by decide), L61.shp (a := 31) (sh := (2, 6)) (by decide)⟩
  obtain ⟨V1, c10a, c10b, c10c, c10d⟩ := pc_clear (N := N) (V := bk_V0) S10
  rw [c10a, pk_bs]
  have Zc10 : pk_zz z 32 V1 := fun a q => ⟨by rw [c10c a (Or.inr (by omega))]; exact (Z60 a q).1, by rw [c10b]; exact (Z60 a q).2⟩
  refine in_end ?_
  refine in_ck (a := 0) L61 (by decide) ?_
  refine in_wR (a := 0) (b := 10) L61 (by decide) (by decide) (fun Y62 L62 => ?_)
  refine in_nw L62 Zc10 (m := 33) (sh' := (1, 4)) rfl (by decide) (fun Y63 L63 Z63 => ?_)
  refine in_bd ?_
  try unfold q_X5_init
  refine in_nw L63 Z63 (m := 34) (sh' := (2, 8)) rfl (by decide) (fun Y64 L64 Z64 => ?_)
  refine in_ck (a := 32) L64 (by decide) ?_
  refine in_wR (a := 32) (b := 33) L64 (by decide) (by decide) (fun Y65 L65 => ?_)
  refine in_nw L65 Z64 (m := 35) (sh' := (2, 4)) rfl (by decide) (fun Y66 L66 Z66 => ?_)
  refine in_ck (a := 32) L66 (by decide) ?_
  refine in_wR (a := 32) (b := 34) L66 (by decide) (by decide) (fun Y67 L67 => ?_)
  refine in_nw L67 Z66 (m := 36) (sh' := (1, 0)) rfl (by decide) (fun Y68 L68 Z68 => ?_)
  refine in_bd ?_
  try unfold q_X1_init
  refine in_nw L68 Z68 (m := 37) (sh' := (2, 6)) rfl (by decide) (fun Y69 L69 Z69 => ?_)
  refine in_ck (a := 35) L69 (by decide) ?_
  refine in_wR (a := 35) (b := 36) L69 (by decide) (by decide) (fun Y70 L70 => ?_)
  refine in_nw L70 Z69 (m := 38) (sh' := (2, 6)) rfl (by decide) (fun Y71 L71 Z71 => ?_)
  refine in_ck (a := 35) L71 (by decide) ?_
  refine in_wR (a := 35) (b := 37) L71 (by decide) (by decide) (fun Y72 L72 => ?_)
  refine in_nw L72 Z71 (m := 39) (sh' := (2, 6)) rfl (by decide) (fun Y73 L73 Z73 => ?_)
  refine in_ck (a := 35) L73 (by decide) ?_
  refine in_wR (a := 35) (b := 38) L73 (by decide) (by decide) (fun Y74 L74 => ?_)
  refine in_end ?_
  refine in_ck (a := 32) L74 (by decide) ?_
  refine in_wR (a := 32) (b := 35) L74 (by decide) (by decide) (fun Y75 L75 => ?_)
  refine in_nw L75 Z73 (m := 40) (sh' := (1, 9)) rfl (by decide) (fun Y76 L76 Z76 => ?_)
  refine in_bd ?_
  try unfold q_X10_init
  refine in_nw L76 Z76 (m := 41) (sh' := (2, 6)) rfl (by decide) (fun Y77 L77 Z77 => ?_)
  refine in_ck (a := 39) L77 (by decide) ?_
  refine in_wR (a := 39) (b := 40) L77 (by decide) (by decide) (fun Y78 L78 => ?_)
  refine in_nw L78 Z77 (m := 42) (sh' := (2, 6)) rfl (by decide) (fun Y79 L79 Z79 => ?_)
  refine in_ck (a := 39) L79 (by decide) ?_
  refine in_wR (a := 39) (b := 41) L79 (by decide) (by decide) (fun Y80 L80 => ?_)
  refine in_end ?_
  refine in_ck (a := 32) L80 (by decide) ?_
  refine in_wR (a := 32) (b := 39) L80 (by decide) (by decide) (fun Y81 L81 => ?_)
  refine in_nw L81 Z79 (m := 43) (sh' := (1, 1)) rfl (by decide) (fun Y82 L82 Z82 => ?_)
  refine in_bd ?_
  try unfold q_X2_init
  refine in_nw L82 Z82 (m := 44) (sh' := (2, 8)) rfl (by decide) (fun Y83 L83 Z83 => ?_)
  refine in_ck (a := 42) L83 (by decide) ?_
  refine in_wR (a := 42) (b := 43) L83 (by decide) (by decide) (fun Y84 L84 => ?_)
  refine in_nw L84 Z83 (m := 45) (sh' := (2, 8)) rfl (by decide) (fun Y85 L85 Z85 => ?_)
  refine in_ck (a := 42) L85 (by decide) ?_
  refine in_wR (a := 42) (b := 44) L85 (by decide) (by decide) (fun Y86 L86 => ?_)
  refine in_nw L86 Z85 (m := 46) (sh' := (2, 8)) rfl (by decide) (fun Y87 L87 Z87 => ?_)
  refine in_ck (a := 42) L87 (by decide) ?_
  refine in_wR (a := 42) (b := 45) L87 (by decide) (by decide) (fun Y88 L88 => ?_)
  refine in_nw L88 Z87 (m := 47) (sh' := (5, 8)) rfl (by decide) (fun Y89 L89 Z89 => ?_)
  refine in_ck (a := 42) L89 (by decide) ?_
  refine in_wR (a := 42) (b := 46) L89 (by decide) (by decide) (fun Y90 L90 => ?_)
  refine in_end ?_
  refine in_ck (a := 32) L90 (by decide) ?_
  refine in_wR (a := 32) (b := 42) L90 (by decide) (by decide) (fun Y91 L91 => ?_)
  refine in_nw L91 Z89 (m := 48) (sh' := (1, 3)) rfl (by decide) (fun Y92 L92 Z92 => ?_)
  refine in_bd ?_
  try unfold q_X4_init
  refine in_nw L92 Z92 (m := 49) (sh' := (2, 700)) rfl (by decide) (fun Y93 L93 Z93 => ?_)
  refine in_ck (a := 47) L93 (by decide) ?_
  refine in_wR (a := 47) (b := 48) L93 (by decide) (by decide) (fun Y94 L94 => ?_)
  refine in_nw L94 Z93 (m := 50) (sh' := (2, 40)) rfl (by decide) (fun Y95 L95 Z95 => ?_)
  refine in_ck (a := 47) L95 (by decide) ?_
  refine in_wR (a := 47) (b := 49) L95 (by decide) (by decide) (fun Y96 L96 => ?_)
  refine in_end ?_
  refine in_ck (a := 32) L96 (by decide) ?_
  refine in_wR (a := 32) (b := 47) L96 (by decide) (by decide) (fun Y97 L97 => ?_)
  refine in_nw L97 Z95 (m := 51) (sh' := (1, 3)) rfl (by decide) (fun Y98 L98 Z98 => ?_)
  refine in_bd ?_
  try unfold q_X4_init
  refine in_nw L98 Z98 (m := 52) (sh' := (2, 700)) rfl (by decide) (fun Y99 L99 Z99 => ?_)
  refine in_ck (a := 50) L99 (by decide) ?_
  refine in_wR (a := 50) (b := 51) L99 (by decide) (by decide) (fun Y100 L100 => ?_)
  refine in_nw L100 Z99 (m := 53) (sh' := (2, 40)) rfl (by decide) (fun Y101 L101 Z101 => ?_)
  refine in_ck (a := 50) L101 (by decide) ?_
  refine in_wR (a := 50) (b := 52) L101 (by decide) (by decide) (fun Y102 L102 => ?_)
  refine in_end ?_
  refine in_ck (a := 32) L102 (by decide) ?_
  refine in_wR (a := 32) (b := 50) L102 (by decide) (by decide) (fun Y103 L103 => ?_)
  refine in_nw L103 Z101 (m := 54) (sh' := (2, 6)) rfl (by decide) (fun Y104 L104 Z104 => ?_)
  refine in_ck (a := 32) L104 (by decide) ?_
  refine in_wR (a := 32) (b := 53) L104 (by decide) (by decide) (fun Y105 L105 => ?_)
  have S32 : pk_Sd _ (z + 32) := ⟨L105.shp (a := 32) (sh := (1, 4)) (by decide), L105.rr (a := 32) (k := 0) (b := 33) (by decide), L105.rr (a := 32) (k := 1) (b := 34) (by decide), L105.rr (a := 32) (k := 2) (b := 35) (by decide), L105.rr (a := 32) (k := 3) (b := 39) (by decide), L105.rr (a := 32) (k := 4) (b := 42) (by decide), L105.rr (a := 32) (k := 5) (b := 47) (by decide), L105.rr (a := 32) (k := 6) (b := 50) (by decide), L105.rr (a := 32) (k := 7) (b := 53) (by decide), L105.shp (a := 33) (sh := (2, 8)) (by decide), L105.shp (a := 34) (sh := (2, 4)) (by decide), L105.shp (a := 35) (sh := (1, 0)) (by decide), L105.rr (a := 35) (k := 0) (b := 36) (by decide), L105.rr (a := 35) (k := 1) (b := 37) (by decide), L105.rr (a := 35) (k := 2) (b := 38) (by decide), L105.shp (a := 36) (sh := (2, 6)) (by decide), L105.shp (a := 37) (sh := (2, 6)) (by decide), L105.shp (a := 38) (sh := (2, 6)) (by decide), L105.shp (a := 39) (sh := (1, 9)) (by decide), L105.rr (a := 39) (k := 0) (b := 40) (by decide), L105.rr (a := 39) (k := 1) (b := 41) (by decide), L105.shp (a := 40) (sh := (2, 6)) (by decide), L105.shp (a := 41) (sh := (2, 6)) (by decide), L105.shp (a := 42) (sh := (1, 1)) (by decide), L105.rr (a := 42) (k := 0) (b := 43) (by decide), L105.rr (a := 42) (k := 1) (b := 44) (by decide), L105.rr (a := 42) (k := 2) (b := 45) (by decide), L105.rr (a := 42) (k := 3) (b := 46) (by decide), L105.shp (a := 43) (sh := (2, 8)) (by decide), L105.shp (a := 44) (sh := (2, 8)) (by decide), L105.shp (a := 45) (sh := (2, 8)) (by decide), L105.shp (a := 46) (sh := (5, 8)) (by decide), L105.shp (a := 47) (sh := (1, 3)) (by decide), L105.rr (a := 47) (k := 0) (b := 48) (by decide), L105.rr (a := 47) (k := 1) (b := 49) (by decide), L105.shp (a := 48) (sh := (2, 700)) (by decide), L105.shp (a := 49) (sh := (2, 40)) (by decide), L105.shp (a := 50) (sh := (1, 3)) (by decide), L105.rr (a := 50) (k := 0) (b := 51) (by decide), L105.rr (a := 50) (k := 1) (b := 52) (by decide), L105.shp (a := 51) (sh := (2, 700)) (by decide), L105.shp (a := 52) (sh := (2, 40)) (by decide), L105.shp (a := 53) (sh := (2, 6)) (by decide)⟩
  obtain ⟨V2, c32a, c32b, c32c, c32d⟩ := pc_clear (N := N) (V := V1) S32
  rw [c32a, pk_bs]
  have Zc32 : pk_zz z 54 V2 := fun a q => ⟨by rw [c32c a (Or.inr (by omega))]; exact (Z104 a q).1, by rw [c32b]; exact (Z104 a q).2⟩
  refine in_end ?_
  refine in_ck (a := 0) L105 (by decide) ?_
  refine in_wR (a := 0) (b := 32) L105 (by decide) (by decide) (fun Y106 L106 => ?_)
  rw [pk_letE]
  generalize hV3 : bk_wI V2 z 12 (-1) = V3
  have r3 : ∀ a, a ≠ z → V3.1 a = V2.1 a := fun a ha => by rw [← hV3, pk_rowI ha]
  have l3 : V3.2 = V2.2 := by rw [← hV3]; rfl
  have ZV3 : pk_zz z 54 V3 := fun a q => ⟨by rw [r3 a (by omega)]; exact (Zc32 a q).1, by rw [l3]; exact (Zc32 a q).2⟩
  refine in_nw L106 ZV3 (m := 55) (sh' := (1, 7)) rfl (by decide) (fun Y107 L107 Z107 => ?_)
  refine in_ck (a := 0) L107 (by decide) ?_
  refine in_rr (a := 0) (b := 1) L107 (by decide) ?_
  refine in_ck (a := 1) L107 (by decide) ?_
  refine in_rr (a := 1) (b := 2) L107 (by decide) ?_
  refine in_rr (a := 0) (b := 32) L107 (by decide) ?_
  refine in_bd ?_
  try unfold q_X8_init
  refine in_nw L107 Z107 (m := 56) (sh' := (1, 8)) rfl (by decide) (fun Y108 L108 Z108 => ?_)
  refine in_bd ?_
  try unfold q_X9_init
  refine in_ck (a := 55) L108 (by decide) ?_
  refine in_wR (a := 55) (b := 2) L108 (by decide) (by decide) (fun Y109 L109 => ?_)
  refine in_end ?_
  refine in_ck (a := 54) L109 (by decide) ?_
  refine in_wR (a := 54) (b := 55) L109 (by decide) (by decide) (fun Y110 L110 => ?_)
  refine in_wR (a := 54) (b := 32) L110 (by decide) (by decide) (fun Y111 L111 => ?_)
  refine in_end ?_
  refine in_ck (a := 0) L111 (by decide) ?_
  refine in_wR (a := 0) (b := 54) L111 (by decide) (by decide) (fun Y112 L112 => ?_)
  refine in_rr (a := 0) (b := 10) L112 (by decide) ?_
  have S10b : pk_Sd _ (z + 10) := ⟨L112.shp (a := 10) (sh := (1, 4)) (by decide), L112.rr (a := 10) (k := 0) (b := 11) (by decide), L112.rr (a := 10) (k := 1) (b := 12) (by decide), L112.rr (a := 10) (k := 2) (b := 13) (by decide), L112.rr (a := 10) (k := 3) (b := 17) (by decide), L112.rr (a := 10) (k := 4) (b := 20) (by decide), L112.rr (a := 10) (k := 5) (b := 25) (by decide), L112.rr (a := 10) (k := 6) (b := 28) (by decide), L112.rr (a := 10) (k := 7) (b := 31) (by decide), L112.shp (a := 11) (sh := (2, 8)) (by decide), L112.shp (a := 12) (sh := (2, 4)) (by decide), L112.shp (a := 13) (sh := (1, 0)) (by decide), L112.rr (a := 13) (k := 0) (b := 14) (by decide), L112.rr (a := 13) (k := 1) (b := 15) (by decide), L112.rr (a := 13) (k := 2) (b := 16) (by decide), L112.shp (a := 14) (sh := (2, 6)) (by decide), L112.shp (a := 15) (sh := (2, 6)) (by decide), L112.shp (a := 16) (sh := (2, 6)) (by decide), L112.shp (a := 17) (sh := (1, 9)) (by decide), L112.rr (a := 17) (k := 0) (b := 18) (by decide), L112.rr (a := 17) (k := 1) (b := 19) (by decide), L112.shp (a := 18) (sh := (2, 6)) (by decide), L112.shp (a := 19) (sh := (2, 6)) (by decide), L112.shp (a := 20) (sh := (1, 1)) (by decide), L112.rr (a := 20) (k := 0) (b := 21) (by decide), L112.rr (a := 20) (k := 1) (b := 22) (by decide), L112.rr (a := 20) (k := 2) (b := 23) (by decide), L112.rr (a := 20) (k := 3) (b := 24) (by decide), L112.shp (a := 21) (sh := (2, 8)) (by decide), L112.shp (a := 22) (sh := (2, 8)) (by decide), L112.shp (a := 23) (sh := (2, 8)) (by decide), L112.shp (a := 24) (sh := (5, 8)) (by decide), L112.shp (a := 25) (sh := (1, 3)) (by decide), L112.rr (a := 25) (k := 0) (b := 26) (by decide), L112.rr (a := 25) (k := 1) (b := 27) (by decide), L112.shp (a := 26) (sh := (2, 700)) (by decide), L112.shp (a := 27) (sh := (2, 40)) (by decide), L112.shp (a := 28) (sh := (1, 3)) (by decide), L112.rr (a := 28) (k := 0) (b := 29) (by decide), L112.rr (a := 28) (k := 1) (b := 30) (by decide), L112.shp (a := 29) (sh := (2, 700)) (by decide), L112.shp (a := 30) (sh := (2, 40)) (by decide), L112.shp (a := 31) (sh := (2, 6)) (by decide)⟩
  have t3 : pk_CT V3 (z + 10) tq_D0 (fun _ => []) := c10d.of (fun a q1 q2 _ => by rw [r3 a (by omega), c32c a (by omega)])
  obtain ⟨V4, d1, d2, d3, d4, d5, d6⟩ := pc_ofNewG (N := N) (V := V3) (by omega) S10b (by rw [L112.1]; omega) t3 tq_D0_b
  rw [L112.1] at d1 d2 d3 d4 d5 d6
  rw [d1, pk_bd3E]
  have LA := (L112.nw (sh := (1, 5))).nw (sh := (3, 4 * tq_D0 0 0))
  have LB := LA.wN (a := 56) (k := 0) (by decide)
  have LC := LB.wR (a := 56) (k := 4) (b := 57) (by decide) (by decide)
  refine in_ck (a := 0) LC (by decide) ?_
  refine in_wR (a := 0) (b := 56) LC (by decide) (by decide) (fun YE LE => ?_)
  refine in_end ?_
  have v2 : ∀ a, (a < z + 11 ∨ z + 52 < a) → V2.1 a = bk_V0.1 a := fun a ha => by rw [c32c a (by omega), c10c a (by omega)]
  have e4 : ∀ a k, a ≠ z + 56 → a ≠ z + 57 → bk_rI V4 a k = bk_rI V3 a k := fun a k q1 q2 => congrFun (d2 a q1 (by omega)).1 k
  refine ⟨LE, fun a q => ?_, t3.of (fun a q1 q2 _ => (d2 a (by omega) (by omega)).1), ?_, fun k hk => ?_, fun k => ?_, fun k => ?_, d3, d4, d5, d6⟩
  · obtain ⟨g1, g2⟩ := d2 a (by omega) (by omega)
    rw [g1, g2]
    exact ZV3 a (by omega)
  · rw [e4 _ _ (by omega) (by omega), ← hV3, pk_rI_same, if_pos rfl]
    rfl
  · rw [e4 _ _ (by omega) (by omega), ← hV3, pk_rI_same, if_neg hk]
    exact congrFun (v2 z (by omega)) k
  · rw [e4 _ _ (by omega) (by omega), show bk_rI V3 (z + 1) k = bk_rI V2 (z + 1) k from congrFun (r3 _ (by omega)) k]
    exact congrFun (v2 (z + 1) (by omega)) k
  · rw [e4 _ _ (by omega) (by omega), show bk_rI V3 (z + 3) k = bk_rI V2 (z + 3) k from congrFun (r3 _ (by omega)) k]
    exact congrFun (v2 (z + 3) (by omega)) k
end
