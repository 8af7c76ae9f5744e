/-! the layouts -/
abbrev pk_Sd (Y : bk_Lay) (t : Nat) : Prop :=
  bk_sh Y t = (1, 4) ∧
  bk_rR Y t 0 = some (t + 1) ∧
  bk_rR Y t 1 = some (t + 2) ∧
  bk_rR Y t 2 = some (t + 3) ∧
  bk_rR Y t 3 = some (t + 7) ∧
  bk_rR Y t 4 = some (t + 10) ∧
  bk_rR Y t 5 = some (t + 15) ∧
  bk_rR Y t 6 = some (t + 18) ∧
  bk_rR Y t 7 = some (t + 21) ∧
  bk_sh Y (t + 1) = (2, 8) ∧
  bk_sh Y (t + 2) = (2, 4) ∧
  bk_sh Y (t + 3) = (1, 0) ∧
  bk_rR Y (t + 3) 0 = some (t + 4) ∧
  bk_rR Y (t + 3) 1 = some (t + 5) ∧
  bk_rR Y (t + 3) 2 = some (t + 6) ∧
  bk_sh Y (t + 4) = (2, 6) ∧
  bk_sh Y (t + 5) = (2, 6) ∧
  bk_sh Y (t + 6) = (2, 6) ∧
  bk_sh Y (t + 7) = (1, 9) ∧
  bk_rR Y (t + 7) 0 = some (t + 8) ∧
  bk_rR Y (t + 7) 1 = some (t + 9) ∧
  bk_sh Y (t + 8) = (2, 6) ∧
  bk_sh Y (t + 9) = (2, 6) ∧
  bk_sh Y (t + 10) = (1, 1) ∧
  bk_rR Y (t + 10) 0 = some (t + 11) ∧
  bk_rR Y (t + 10) 1 = some (t + 12) ∧
  bk_rR Y (t + 10) 2 = some (t + 13) ∧
  bk_rR Y (t + 10) 3 = some (t + 14) ∧
  bk_sh Y (t + 11) = (2, 8) ∧
  bk_sh Y (t + 12) = (2, 8) ∧
  bk_sh Y (t + 13) = (2, 8) ∧
  bk_sh Y (t + 14) = (5, 8) ∧
  bk_sh Y (t + 15) = (1, 3) ∧
  bk_rR Y (t + 15) 0 = some (t + 16) ∧
  bk_rR Y (t + 15) 1 = some (t + 17) ∧
  bk_sh Y (t + 16) = (2, 700) ∧
  bk_sh Y (t + 17) = (2, 40) ∧
  bk_sh Y (t + 18) = (1, 3) ∧
  bk_rR Y (t + 18) 0 = some (t + 19) ∧
  bk_rR Y (t + 18) 1 = some (t + 20) ∧
  bk_sh Y (t + 19) = (2, 700) ∧
  bk_sh Y (t + 20) = (2, 40) ∧
  bk_sh Y (t + 21) = (2, 6)
abbrev pk_Rf (Y : bk_Lay) (r : Nat) : Prop :=
  bk_sh Y r = (1, 11) ∧
  bk_rR Y r 14 = some (r + 1) ∧
  bk_rR Y r 15 = some (r + 2) ∧
  bk_rR Y r 16 = some (r + 3) ∧
  bk_rR Y r 17 = some (r + 4) ∧
  bk_rR Y r 18 = some (r + 5) ∧
  bk_rR Y r 19 = some (r + 6) ∧
  bk_rR Y r 23 = some (r + 7) ∧
  bk_rR Y r 51 = some (r + 8) ∧
  bk_rR Y r 52 = some (r + 9) ∧
  bk_rR Y r 53 = some (r + 10) ∧
  bk_rR Y r 54 = some (r + 11) ∧
  bk_rR Y r 55 = some (r + 12) ∧
  bk_rR Y r 56 = some (r + 13) ∧
  bk_rR Y r 57 = some (r + 14) ∧
  bk_rR Y r 62 = some (r + 15) ∧
  bk_rR Y r 63 = some (r + 16) ∧
  bk_rR Y r 64 = some (r + 17) ∧
  bk_rR Y r 65 = some (r + 18) ∧
  bk_rR Y r 66 = some (r + 19) ∧
  bk_rR Y r 67 = some (r + 20) ∧
  bk_rR Y r 68 = some (r + 21) ∧
  bk_rR Y r 70 = some (r + 22) ∧
  bk_rR Y r 74 = some (r + 23) ∧
  bk_rR Y r 76 = some (r + 24) ∧
  bk_rR Y r 82 = some (r + 25) ∧
  bk_rR Y r 83 = some (r + 26) ∧
  bk_rR Y r 84 = some (r + 27) ∧
  bk_sh Y (r + 1) = (2, 24) ∧
  bk_sh Y (r + 2) = (2, 4) ∧
  bk_sh Y (r + 3) = (2, 12) ∧
  bk_sh Y (r + 4) = (2, 32) ∧
  bk_sh Y (r + 5) = (2, 1900) ∧
  bk_sh Y (r + 6) = (2, 700) ∧
  bk_sh Y (r + 7) = (2, 2) ∧
  bk_sh Y (r + 8) = (2, 24) ∧
  bk_sh Y (r + 9) = (2, 4) ∧
  bk_sh Y (r + 10) = (2, 12) ∧
  bk_sh Y (r + 11) = (2, 32) ∧
  bk_sh Y (r + 12) = (2, 1900) ∧
  bk_sh Y (r + 13) = (2, 950) ∧
  bk_sh Y (r + 14) = (5, 9) ∧
  bk_sh Y (r + 15) = (3, 336) ∧
  bk_sh Y (r + 16) = (3, 13440) ∧
  bk_sh Y (r + 17) = (2, 120) ∧
  bk_sh Y (r + 18) = (2, 9) ∧
  bk_sh Y (r + 19) = (2, 950) ∧
  bk_sh Y (r + 20) = (3, 336) ∧
  bk_sh Y (r + 21) = (3, 84) ∧
  bk_sh Y (r + 22) = (2, 84) ∧
  bk_sh Y (r + 23) = (3, 4) ∧
  bk_sh Y (r + 24) = (2, 6) ∧
  bk_sh Y (r + 25) = (3, 336) ∧
  bk_sh Y (r + 26) = (3, 13440) ∧
  bk_sh Y (r + 27) = (2, 120)
abbrev pk_Mn (Y : bk_Lay) (z : Nat) : Prop :=
  bk_sh Y z = (1, 10) ∧
  bk_rR Y z 0 = some (z + 1) ∧
  bk_rR Y z 1 = some (z + 3) ∧
  bk_rR Y z 2 = some (z + 54) ∧
  bk_rR Y z 3 = some (z + 8) ∧
  bk_rR Y z 4 = some (z + 9) ∧
  bk_sh Y (z + 1) = (1, 6) ∧
  bk_rR Y (z + 1) 0 = some (z + 2) ∧
  bk_sh Y (z + 2) = (4, 700) ∧
  bk_sh Y (z + 3) = (1, 2) ∧
  bk_rR Y (z + 3) 0 = some (z + 4) ∧
  bk_rR Y (z + 3) 1 = some (z + 5) ∧
  bk_rR Y (z + 3) 2 = some (z + 6) ∧
  bk_rR Y (z + 3) 3 = some (z + 7) ∧
  bk_sh Y (z + 4) = (3, 336) ∧
  bk_sh Y (z + 5) = (3, 84) ∧
  bk_sh Y (z + 6) = (2, 600) ∧
  bk_sh Y (z + 7) = (3, 601) ∧
  bk_sh Y (z + 8) = (2, 84) ∧
  bk_sh Y (z + 9) = (2, 6) ∧
  bk_sh Y (z + 54) = (1, 7) ∧
  bk_rR Y (z + 54) 0 = some (z + 55) ∧
  bk_sh Y (z + 55) = (1, 8) ∧
  bk_rR Y (z + 55) 0 = some (z + 2) ∧
  bk_sh Y (z + 86) = (3, 1)
def pk_shL : List (Nat × Nat × Nat) := [(0, 1, 10), (1, 1, 6), (2, 4, 700), (3, 1, 2), (4, 3, 336), (5, 3, 84), (6, 2, 600), (7, 3, 601), (8, 2, 84), (9, 2, 6), (10, 1, 4), (11, 2, 8), (12, 2, 4), (13, 1, 0), (14, 2, 6), (15, 2, 6), (16, 2, 6), (17, 1, 9), (18, 2, 6), (19, 2, 6), (20, 1, 1), (21, 2, 8), (22, 2, 8), (23, 2, 8), (24, 5, 8), (25, 1, 3), (26, 2, 700), (27, 2, 40), (28, 1, 3), (29, 2, 700), (30, 2, 40), (31, 2, 6), (32, 1, 4), (33, 2, 8), (34, 2, 4), (35, 1, 0), (36, 2, 6), (37, 2, 6), (38, 2, 6), (39, 1, 9), (40, 2, 6), (41, 2, 6), (42, 1, 1), (43, 2, 8), (44, 2, 8), (45, 2, 8), (46, 5, 8), (47, 1, 3), (48, 2, 700), (49, 2, 40), (50, 1, 3), (51, 2, 700), (52, 2, 40), (53, 2, 6), (54, 1, 7), (55, 1, 8), (58, 1, 11), (59, 2, 24), (60, 2, 4), (61, 2, 12), (62, 2, 32), (63, 2, 1900), (64, 2, 700), (65, 2, 2), (66, 2, 24), (67, 2, 4), (68, 2, 12), (69, 2, 32), (70, 2, 1900), (71, 2, 950), (72, 5, 9), (73, 3, 336), (74, 3, 13440), (75, 2, 120), (76, 2, 9), (77, 2, 950), (78, 3, 336), (79, 3, 84), (80, 2, 84), (81, 3, 4), (82, 2, 6), (83, 3, 336), (84, 3, 13440), (85, 2, 120), (86, 3, 1)]
def pk_rfL : List (Nat × Nat × Nat) := [(0, 0, 1), (0, 1, 3), (0, 2, 54), (0, 3, 8), (0, 4, 9), (1, 0, 2), (3, 0, 4), (3, 1, 5), (3, 2, 6), (3, 3, 7), (10, 0, 11), (10, 1, 12), (10, 2, 13), (10, 3, 17), (10, 4, 20), (10, 5, 25), (10, 6, 28), (10, 7, 31), (13, 0, 14), (13, 1, 15), (13, 2, 16), (17, 0, 18), (17, 1, 19), (20, 0, 21), (20, 1, 22), (20, 2, 23), (20, 3, 24), (25, 0, 26), (25, 1, 27), (28, 0, 29), (28, 1, 30), (32, 0, 33), (32, 1, 34), (32, 2, 35), (32, 3, 39), (32, 4, 42), (32, 5, 47), (32, 6, 50), (32, 7, 53), (35, 0, 36), (35, 1, 37), (35, 2, 38), (39, 0, 40), (39, 1, 41), (42, 0, 43), (42, 1, 44), (42, 2, 45), (42, 3, 46), (47, 0, 48), (47, 1, 49), (50, 0, 51), (50, 1, 52), (54, 0, 55), (55, 0, 2), (58, 14, 59), (58, 15, 60), (58, 16, 61), (58, 17, 62), (58, 18, 63), (58, 19, 64), (58, 23, 65), (58, 51, 66), (58, 52, 67), (58, 53, 68), (58, 54, 69), (58, 55, 70), (58, 56, 71), (58, 57, 72), (58, 62, 73), (58, 63, 74), (58, 64, 75), (58, 65, 76), (58, 66, 77), (58, 67, 78), (58, 68, 79), (58, 70, 80), (58, 74, 81), (58, 76, 82), (58, 82, 83), (58, 83, 84), (58, 84, 85)]
def pk_Fix (z : Nat) (Y : bk_Lay) : Prop := (∀ e ∈ pk_shL, bk_sh Y (z + e.1) = e.2) ∧ (∀ e ∈ pk_rfL, bk_rR Y (z + e.1) e.2.1 = some (z + e.2.2)) ∧ z + 87 ≤ bk_sz Y
def pk_one (z : Nat) (Y : bk_Lay) (l : List (Nat × Nat × Nat)) : Prop := ∀ e ∈ l, bk_sh Y (z + e.1) = e.2
theorem pk_Fix.sd0 {z : Nat} {Y : bk_Lay} (h : pk_Fix z Y) : pk_Sd Y (z + 10) := ⟨h.1 (10, 1, 4) (by decide), h.2.1 (10, 0, 11) (by decide), h.2.1 (10, 1, 12) (by decide), h.2.1 (10, 2, 13) (by decide), h.2.1 (10, 3, 17) (by decide), h.2.1 (10, 4, 20) (by decide), h.2.1 (10, 5, 25) (by decide), h.2.1 (10, 6, 28) (by decide), h.2.1 (10, 7, 31) (by decide), h.1 (11, 2, 8) (by decide), h.1 (12, 2, 4) (by decide), h.1 (13, 1, 0) (by decide), h.2.1 (13, 0, 14) (by decide), h.2.1 (13, 1, 15) (by decide), h.2.1 (13, 2, 16) (by decide), h.1 (14, 2, 6) (by decide), h.1 (15, 2, 6) (by decide), h.1 (16, 2, 6) (by decide), h.1 (17, 1, 9) (by decide), h.2.1 (17, 0, 18) (by decide), h.2.1 (17, 1, 19) (by decide), h.1 (18, 2, 6) (by decide), h.1 (19, 2, 6) (by decide), h.1 (20, 1, 1) (by decide), h.2.1 (20, 0, 21) (by decide), h.2.1 (20, 1, 22) (by decide), h.2.1 (20, 2, 23) (by decide), h.2.1 (20, 3, 24) (by decide), h.1 (21, 2, 8) (by decide), h.1 (22, 2, 8) (by decide), h.1 (23, 2, 8) (by decide), h.1 (24, 5, 8) (by decide), h.1 (25, 1, 3) (by decide), h.2.1 (25, 0, 26) (by decide), h.2.1 (25, 1, 27) (by decide), h.1 (26, 2, 700) (by decide), h.1 (27, 2, 40) (by decide), h.1 (28, 1, 3) (by decide), h.2.1 (28, 0, 29) (by decide), h.2.1 (28, 1, 30) (by decide), h.1 (29, 2, 700) (by decide), h.1 (30, 2, 40) (by decide), h.1 (31, 2, 6) (by decide)⟩
theorem pk_Fix.sd1 {z : Nat} {Y : bk_Lay} (h : pk_Fix z Y) : pk_Sd Y (z + 32) := ⟨h.1 (32, 1, 4) (by decide), h.2.1 (32, 0, 33) (by decide), h.2.1 (32, 1, 34) (by decide), h.2.1 (32, 2, 35) (by decide), h.2.1 (32, 3, 39) (by decide), h.2.1 (32, 4, 42) (by decide), h.2.1 (32, 5, 47) (by decide), h.2.1 (32, 6, 50) (by decide), h.2.1 (32, 7, 53) (by decide), h.1 (33, 2, 8) (by decide), h.1 (34, 2, 4) (by decide), h.1 (35, 1, 0) (by decide), h.2.1 (35, 0, 36) (by decide), h.2.1 (35, 1, 37) (by decide), h.2.1 (35, 2, 38) (by decide), h.1 (36, 2, 6) (by decide), h.1 (37, 2, 6) (by decide), h.1 (38, 2, 6) (by decide), h.1 (39, 1, 9) (by decide), h.2.1 (39, 0, 40) (by decide), h.2.1 (39, 1, 41) (by decide), h.1 (40, 2, 6) (by decide), h.1 (41, 2, 6) (by decide), h.1 (42, 1, 1) (by decide), h.2.1 (42, 0, 43) (by decide), h.2.1 (42, 1, 44) (by decide), h.2.1 (42, 2, 45) (by decide), h.2.1 (42, 3, 46) (by decide), h.1 (43, 2, 8) (by decide), h.1 (44, 2, 8) (by decide), h.1 (45, 2, 8) (by decide), h.1 (46, 5, 8) (by decide), h.1 (47, 1, 3) (by decide), h.2.1 (47, 0, 48) (by decide), h.2.1 (47, 1, 49) (by decide), h.1 (48, 2, 700) (by decide), h.1 (49, 2, 40) (by decide), h.1 (50, 1, 3) (by decide), h.2.1 (50, 0, 51) (by decide), h.2.1 (50, 1, 52) (by decide), h.1 (51, 2, 700) (by decide), h.1 (52, 2, 40) (by decide), h.1 (53, 2, 6) (by decide)⟩
theorem pk_Fix.rf {z : Nat} {Y : bk_Lay} (h : pk_Fix z Y) : pk_Rf Y (z + 58) := ⟨h.1 (58, 1, 11) (by decide), h.2.1 (58, 14, 59) (by decide), h.2.1 (58, 15, 60) (by decide), h.2.1 (58, 16, 61) (by decide), h.2.1 (58, 17, 62) (by decide), h.2.1 (58, 18, 63) (by decide), h.2.1 (58, 19, 64) (by decide), h.2.1 (58, 23, 65) (by decide), h.2.1 (58, 51, 66) (by decide), h.2.1 (58, 52, 67) (by decide), h.2.1 (58, 53, 68) (by decide), h.2.1 (58, 54, 69) (by decide), h.2.1 (58, 55, 70) (by decide), h.2.1 (58, 56, 71) (by decide), h.2.1 (58, 57, 72) (by decide), h.2.1 (58, 62, 73) (by decide), h.2.1 (58, 63, 74) (by decide), h.2.1 (58, 64, 75) (by decide), h.2.1 (58, 65, 76) (by decide), h.2.1 (58, 66, 77) (by decide), h.2.1 (58, 67, 78) (by decide), h.2.1 (58, 68, 79) (by decide), h.2.1 (58, 70, 80) (by decide), h.2.1 (58, 74, 81) (by decide), h.2.1 (58, 76, 82) (by decide), h.2.1 (58, 82, 83) (by decide), h.2.1 (58, 83, 84) (by decide), h.2.1 (58, 84, 85) (by decide), h.1 (59, 2, 24) (by decide), h.1 (60, 2, 4) (by decide), h.1 (61, 2, 12) (by decide), h.1 (62, 2, 32) (by decide), h.1 (63, 2, 1900) (by decide), h.1 (64, 2, 700) (by decide), h.1 (65, 2, 2) (by decide), h.1 (66, 2, 24) (by decide), h.1 (67, 2, 4) (by decide), h.1 (68, 2, 12) (by decide), h.1 (69, 2, 32) (by decide), h.1 (70, 2, 1900) (by decide), h.1 (71, 2, 950) (by decide), h.1 (72, 5, 9) (by decide), h.1 (73, 3, 336) (by decide), h.1 (74, 3, 13440) (by decide), h.1 (75, 2, 120) (by decide), h.1 (76, 2, 9) (by decide), h.1 (77, 2, 950) (by decide), h.1 (78, 3, 336) (by decide), h.1 (79, 3, 84) (by decide), h.1 (80, 2, 84) (by decide), h.1 (81, 3, 4) (by decide), h.1 (82, 2, 6) (by decide), h.1 (83, 3, 336) (by decide), h.1 (84, 3, 13440) (by decide), h.1 (85, 2, 120) (by decide)⟩
theorem pk_Fix.mn {z : Nat} {Y : bk_Lay} (h : pk_Fix z Y) : pk_Mn Y z := ⟨h.1 (0, 1, 10) (by decide), h.2.1 (0, 0, 1) (by decide), h.2.1 (0, 1, 3) (by decide), h.2.1 (0, 2, 54) (by decide), h.2.1 (0, 3, 8) (by decide), h.2.1 (0, 4, 9) (by decide), h.1 (1, 1, 6) (by decide), h.2.1 (1, 0, 2) (by decide), h.1 (2, 4, 700) (by decide), h.1 (3, 1, 2) (by decide), h.2.1 (3, 0, 4) (by decide), h.2.1 (3, 1, 5) (by decide), h.2.1 (3, 2, 6) (by decide), h.2.1 (3, 3, 7) (by decide), h.1 (4, 3, 336) (by decide), h.1 (5, 3, 84) (by decide), h.1 (6, 2, 600) (by decide), h.1 (7, 3, 601) (by decide), h.1 (8, 2, 84) (by decide), h.1 (9, 2, 6) (by decide), h.1 (54, 1, 7) (by decide), h.2.1 (54, 0, 55) (by decide), h.1 (55, 1, 8) (by decide), h.2.1 (55, 0, 2) (by decide), h.1 (86, 3, 1) (by decide)⟩
theorem pk_shL_lt : ∀ e ∈ pk_shL, e.1 < 87 := by decide
theorem pk_rfL_lt : ∀ e ∈ pk_rfL, e.1 < 87 := by decide
theorem pk_Fix.nw {z : Nat} {Y : bk_Lay} {s : Nat × Nat} (h : pk_Fix z Y) : pk_Fix z (bk_nw Y s) := by
  obtain ⟨h1, h2, h3⟩ := h
  refine ⟨fun e he => ?_, fun e he => ?_, ?_⟩
  · have := pk_shL_lt e he
    rw [pk_sh_nw, if_neg (by omega)]
    exact h1 e he
  · have := pk_rfL_lt e he
    rw [pk_rR_nw, if_neg (by omega)]
    exact h2 e he
  · rw [pk_sz_nw]; omega
/-- references that change -/
theorem pk_rfL_free : ∀ e ∈ pk_rfL, ¬ ((e.1 = 0 ∧ 5 ≤ e.2.1) ∨ (e.1 = 3 ∧ 4 ≤ e.2.1) ∨ (e.1 = 54 ∧ 1 ≤ e.2.1) ∨ e.1 = 56 ∨ 87 ≤ e.1) := by decide
theorem pk_Fix.wR {z a k : Nat} {Y : bk_Lay} {r : Option Nat} (h : pk_Fix z Y) (hf : (a = z ∧ 5 ≤ k) ∨ (a = z + 3 ∧ 4 ≤ k) ∨ (a = z + 54 ∧ 1 ≤ k) ∨ a = z + 56 ∨ z + 87 ≤ a) : pk_Fix z (bk_wR Y a k r) := by
  obtain ⟨h1, h2, h3⟩ := h
  refine ⟨fun e he => h1 e he, fun e he => ?_, h3⟩
  have := pk_rfL_free e he
  rw [pk_rR_wR, if_neg (by omega)]
  exact h2 e he
