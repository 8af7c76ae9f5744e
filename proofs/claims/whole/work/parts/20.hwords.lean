theorem mh_L_shed : bk_mh yL_shed cL_shed 4 (some FieldType.int) [(0, 9, 12, 13)] 3 := ⟨bk_in3 (List.mem_of_getElem? (i := 89) rfl) rfl, bk_in1 (List.mem_of_getElem? (i := 0) rfl) rfl, by decide, by decide, by decide +kernel⟩
theorem st_L_shed : Cond.static yL_shed ∈ bk_GW := bk_in3 (List.mem_of_getElem? (i := 88) rfl) rfl
theorem lw_RL_7 : Cond.methodLink RL 7 yX11_shed ∈ bk_GW := bk_in3 (List.mem_of_getElem? (i := 91) rfl) rfl
theorem lw_RL_124 : Cond.methodLink RL 124 yL_shed ∈ bk_GW := bk_in3 (List.mem_of_getElem? (i := 87) rfl) rfl
theorem lc_RL_13 : Cond.classLink RL 13 "java/lang/IllegalArgumentException" ∈ bk_GW := bk_in3 (List.mem_of_getElem? (i := 90) rfl) rfl
theorem lc_RL_18 : Cond.classLink RL 18 "java/util/NoSuchElementException" ∈ bk_GW := bk_in4 (List.mem_of_getElem? (i := 174) rfl) rfl
theorem mc_X11_shed : bk_mc yX11_shed cX11_shed 3 (some FieldType.int) 1 := ⟨bk_in3 (List.mem_of_getElem? (i := 94) rfl) rfl, bk_in1 (List.mem_of_getElem? (i := 1) rfl) rfl, by decide, by decide, by decide +kernel⟩
theorem mv_X11_shed : bk_mv yX11_shed := ⟨bk_in3 (List.mem_of_getElem? (i := 92) rfl) rfl, bk_in3 (List.mem_of_getElem? (i := 93) rfl) rfl⟩
theorem mh_L_count : bk_mh yL_count cL_count 4 (some FieldType.int) [(0, 9, 12, 18)] 3 := ⟨bk_in4 (List.mem_of_getElem? (i := 173) rfl) rfl, bk_in1 (List.mem_of_getElem? (i := 0) rfl) rfl, by decide, by decide, by decide +kernel⟩
theorem st_L_count : Cond.static yL_count ∈ bk_GW := bk_in4 (List.mem_of_getElem? (i := 172) rfl) rfl
theorem lw_RL_15 : Cond.methodLink RL 15 yX11_count ∈ bk_GW := bk_in4 (List.mem_of_getElem? (i := 175) rfl) rfl
theorem lw_RL_138 : Cond.methodLink RL 138 yL_count ∈ bk_GW := bk_in4 (List.mem_of_getElem? (i := 171) rfl) rfl
theorem mc_X11_count : bk_mc yX11_count cX11_count 2 (some FieldType.int) 1 := ⟨bk_in4 (List.mem_of_getElem? (i := 178) rfl) rfl, bk_in1 (List.mem_of_getElem? (i := 1) rfl) rfl, by decide, by decide, by decide +kernel⟩
theorem mv_X11_count : bk_mv yX11_count := ⟨bk_in4 (List.mem_of_getElem? (i := 176) rfl) rfl, bk_in4 (List.mem_of_getElem? (i := 177) rfl) rfl⟩
theorem mh_L_hole : bk_mh yL_hole cL_hole 5 (some FieldType.int) [(0, 10, 13, 18)] 4 := ⟨bk_in4 (List.mem_of_getElem? (i := 197) rfl) rfl, bk_in1 (List.mem_of_getElem? (i := 0) rfl) rfl, by decide, by decide, by decide +kernel⟩
theorem st_L_hole : Cond.static yL_hole ∈ bk_GW := bk_in4 (List.mem_of_getElem? (i := 196) rfl) rfl
theorem lw_RL_20 : Cond.methodLink RL 20 yX11_hole ∈ bk_GW := bk_in4 (List.mem_of_getElem? (i := 198) rfl) rfl
theorem lw_RL_141 : Cond.methodLink RL 141 yL_hole ∈ bk_GW := bk_in4 (List.mem_of_getElem? (i := 195) rfl) rfl
theorem mc_X11_hole : bk_mc yX11_hole cX11_hole 3 (some FieldType.int) 2 := ⟨bk_in4 (List.mem_of_getElem? (i := 201) rfl) rfl, bk_in1 (List.mem_of_getElem? (i := 1) rfl) rfl, by decide, by decide, by decide +kernel⟩
theorem mv_X11_hole : bk_mv yX11_hole := ⟨bk_in4 (List.mem_of_getElem? (i := 199) rfl) rfl, bk_in4 (List.mem_of_getElem? (i := 200) rfl) rfl⟩
theorem mh_L_weight : bk_mh yL_weight cL_weight 4 (some FieldType.int) [(0, 8, 11, 18)] 3 := ⟨bk_in4 (List.mem_of_getElem? (i := 213) rfl) rfl, bk_in1 (List.mem_of_getElem? (i := 0) rfl) rfl, by decide, by decide, by decide +kernel⟩
theorem st_L_weight : Cond.static yL_weight ∈ bk_GW := bk_in4 (List.mem_of_getElem? (i := 212) rfl) rfl
theorem lw_RL_24 : Cond.methodLink RL 24 yX11_weight ∈ bk_GW := bk_in4 (List.mem_of_getElem? (i := 214) rfl) rfl
theorem lw_RL_174 : Cond.methodLink RL 174 yL_weight ∈ bk_GW := bk_in4 (List.mem_of_getElem? (i := 211) rfl) rfl
theorem mc_X11_weight : bk_mc yX11_weight cX11_weight 2 (some FieldType.long) 1 := ⟨bk_in4 (List.mem_of_getElem? (i := 217) rfl) rfl, bk_in1 (List.mem_of_getElem? (i := 1) rfl) rfl, by decide, by decide, by decide +kernel⟩
theorem mv_X11_weight : bk_mv yX11_weight := ⟨bk_in4 (List.mem_of_getElem? (i := 215) rfl) rfl, bk_in4 (List.mem_of_getElem? (i := 216) rfl) rfl⟩
theorem mh_L_odds : bk_mh yL_odds cL_odds 4 (some FieldType.int) [(0, 9, 12, 18)] 3 := ⟨bk_in4 (List.mem_of_getElem? (i := 224) rfl) rfl, bk_in1 (List.mem_of_getElem? (i := 0) rfl) rfl, by decide, by decide, by decide +kernel⟩
theorem st_L_odds : Cond.static yL_odds ∈ bk_GW := bk_in4 (List.mem_of_getElem? (i := 223) rfl) rfl
theorem lw_RL_28 : Cond.methodLink RL 28 yX11_odds ∈ bk_GW := bk_in4 (List.mem_of_getElem? (i := 225) rfl) rfl
theorem lw_RL_177 : Cond.methodLink RL 177 yL_odds ∈ bk_GW := bk_in4 (List.mem_of_getElem? (i := 222) rfl) rfl
theorem mc_X11_odds : bk_mc yX11_odds cX11_odds 2 (some FieldType.int) 1 := ⟨bk_in4 (List.mem_of_getElem? (i := 228) rfl) rfl, bk_in1 (List.mem_of_getElem? (i := 1) rfl) rfl, by decide, by decide, by decide +kernel⟩
theorem mv_X11_odds : bk_mv yX11_odds := ⟨bk_in4 (List.mem_of_getElem? (i := 226) rfl) rfl, bk_in4 (List.mem_of_getElem? (i := 227) rfl) rfl⟩
theorem mh_L_next : bk_mh yL_next cL_next 4 (some FieldType.int) [(0, 9, 12, 18)] 3 := ⟨bk_in4 (List.mem_of_getElem? (i := 238) rfl) rfl, bk_in1 (List.mem_of_getElem? (i := 0) rfl) rfl, by decide, by decide, by decide +kernel⟩
theorem st_L_next : Cond.static yL_next ∈ bk_GW := bk_in4 (List.mem_of_getElem? (i := 237) rfl) rfl
theorem lw_RL_31 : Cond.methodLink RL 31 yX11_next ∈ bk_GW := bk_in4 (List.mem_of_getElem? (i := 239) rfl) rfl
theorem lw_RL_180 : Cond.methodLink RL 180 yL_next ∈ bk_GW := bk_in4 (List.mem_of_getElem? (i := 236) rfl) rfl
theorem mc_X11_next : bk_mc yX11_next cX11_next 2 (some FieldType.int) 1 := ⟨bk_in5 (List.mem_of_getElem? (i := 2) rfl) rfl, bk_in1 (List.mem_of_getElem? (i := 1) rfl) rfl, by decide, by decide, by decide +kernel⟩
theorem mv_X11_next : bk_mv yX11_next := ⟨bk_in5 (List.mem_of_getElem? (i := 0) rfl) rfl, bk_in5 (List.mem_of_getElem? (i := 1) rfl) rfl⟩
theorem mh_L_plan : bk_mh yL_plan cL_plan 4 (some FieldType.int) [(0, 9, 12, 13)] 3 := ⟨bk_in5 (List.mem_of_getElem? (i := 46) rfl) rfl, bk_in1 (List.mem_of_getElem? (i := 0) rfl) rfl, by decide, by decide, by decide +kernel⟩
theorem st_L_plan : Cond.static yL_plan ∈ bk_GW := bk_in5 (List.mem_of_getElem? (i := 45) rfl) rfl
theorem lw_RL_34 : Cond.methodLink RL 34 yX11_plan ∈ bk_GW := bk_in5 (List.mem_of_getElem? (i := 47) rfl) rfl
theorem lw_RL_183 : Cond.methodLink RL 183 yL_plan ∈ bk_GW := bk_in5 (List.mem_of_getElem? (i := 44) rfl) rfl
theorem mc_X11_plan : bk_mc yX11_plan cX11_plan 5 (some FieldType.int) 1 := ⟨bk_in5 (List.mem_of_getElem? (i := 50) rfl) rfl, bk_in1 (List.mem_of_getElem? (i := 1) rfl) rfl, by decide, by decide, by decide +kernel⟩
theorem mv_X11_plan : bk_mv yX11_plan := ⟨bk_in5 (List.mem_of_getElem? (i := 48) rfl) rfl, bk_in5 (List.mem_of_getElem? (i := 49) rfl) rfl⟩
theorem mh_L_planned : bk_mh yL_planned cL_planned 4 (some FieldType.int) [(0, 9, 12, 18)] 3 := ⟨bk_in5 (List.mem_of_getElem? (i := 56) rfl) rfl, bk_in1 (List.mem_of_getElem? (i := 0) rfl) rfl, by decide, by decide, by decide +kernel⟩
theorem st_L_planned : Cond.static yL_planned ∈ bk_GW := bk_in5 (List.mem_of_getElem? (i := 55) rfl) rfl
theorem lw_RL_37 : Cond.methodLink RL 37 yX11_planned ∈ bk_GW := bk_in5 (List.mem_of_getElem? (i := 57) rfl) rfl
theorem lw_RL_186 : Cond.methodLink RL 186 yL_planned ∈ bk_GW := bk_in5 (List.mem_of_getElem? (i := 54) rfl) rfl
theorem mc_X11_planned : bk_mc yX11_planned cX11_planned 2 (some FieldType.int) 1 := ⟨bk_in5 (List.mem_of_getElem? (i := 60) rfl) rfl, bk_in1 (List.mem_of_getElem? (i := 1) rfl) rfl, by decide, by decide, by decide +kernel⟩
theorem mv_X11_planned : bk_mv yX11_planned := ⟨bk_in5 (List.mem_of_getElem? (i := 58) rfl) rfl, bk_in5 (List.mem_of_getElem? (i := 59) rfl) rfl⟩
theorem mh_L_seek : bk_mh yL_seek cL_seek 6 (some FieldType.int) [(0, 12, 15, 18)] 5 := ⟨bk_in5 (List.mem_of_getElem? (i := 63) rfl) rfl, bk_in1 (List.mem_of_getElem? (i := 0) rfl) rfl, by decide, by decide, by decide +kernel⟩
theorem st_L_seek : Cond.static yL_seek ∈ bk_GW := bk_in5 (List.mem_of_getElem? (i := 62) rfl) rfl
theorem lw_RL_40 : Cond.methodLink RL 40 yX11_seek ∈ bk_GW := bk_in5 (List.mem_of_getElem? (i := 64) rfl) rfl
theorem lw_RL_189 : Cond.methodLink RL 189 yL_seek ∈ bk_GW := bk_in5 (List.mem_of_getElem? (i := 61) rfl) rfl
theorem mc_X11_seek : bk_mc yX11_seek cX11_seek 4 (some FieldType.int) 3 := ⟨bk_in5 (List.mem_of_getElem? (i := 67) rfl) rfl, bk_in1 (List.mem_of_getElem? (i := 1) rfl) rfl, by decide, by decide, by decide +kernel⟩
theorem mv_X11_seek : bk_mv yX11_seek := ⟨bk_in5 (List.mem_of_getElem? (i := 65) rfl) rfl, bk_in5 (List.mem_of_getElem? (i := 66) rfl) rfl⟩
theorem mh_L_air : bk_mh yL_air cL_air 4 (some FieldType.int) [(0, 9, 12, 13)] 3 := ⟨bk_in5 (List.mem_of_getElem? (i := 94) rfl) rfl, bk_in1 (List.mem_of_getElem? (i := 0) rfl) rfl, by decide, by decide, by decide +kernel⟩
theorem st_L_air : Cond.static yL_air ∈ bk_GW := bk_in5 (List.mem_of_getElem? (i := 93) rfl) rfl
theorem lw_RL_44 : Cond.methodLink RL 44 yX11_air ∈ bk_GW := bk_in5 (List.mem_of_getElem? (i := 95) rfl) rfl
theorem lw_RL_193 : Cond.methodLink RL 193 yL_air ∈ bk_GW := bk_in5 (List.mem_of_getElem? (i := 92) rfl) rfl
theorem mc_X11_air : bk_mc yX11_air cX11_air 5 (some FieldType.int) 1 := ⟨bk_in5 (List.mem_of_getElem? (i := 98) rfl) rfl, bk_in1 (List.mem_of_getElem? (i := 1) rfl) rfl, by decide, by decide, by decide +kernel⟩
theorem mv_X11_air : bk_mv yX11_air := ⟨bk_in5 (List.mem_of_getElem? (i := 96) rfl) rfl, bk_in5 (List.mem_of_getElem? (i := 97) rfl) rfl⟩
theorem mh_L_line : bk_mh yL_line cL_line 4 (some FieldType.int) [(0, 9, 12, 13)] 3 := ⟨bk_in5 (List.mem_of_getElem? (i := 107) rfl) rfl, bk_in1 (List.mem_of_getElem? (i := 0) rfl) rfl, by decide, by decide, by decide +kernel⟩
theorem st_L_line : Cond.static yL_line ∈ bk_GW := bk_in5 (List.mem_of_getElem? (i := 106) rfl) rfl
theorem lw_RL_47 : Cond.methodLink RL 47 yX11_line ∈ bk_GW := bk_in5 (List.mem_of_getElem? (i := 108) rfl) rfl
theorem lw_RL_196 : Cond.methodLink RL 196 yL_line ∈ bk_GW := bk_in5 (List.mem_of_getElem? (i := 105) rfl) rfl
theorem mc_X11_line : bk_mc yX11_line cX11_line 5 (some FieldType.int) 1 := ⟨bk_in5 (List.mem_of_getElem? (i := 111) rfl) rfl, bk_in1 (List.mem_of_getElem? (i := 1) rfl) rfl, by decide, by decide, by decide +kernel⟩
theorem mv_X11_line : bk_mv yX11_line := ⟨bk_in5 (List.mem_of_getElem? (i := 109) rfl) rfl, bk_in5 (List.mem_of_getElem? (i := 110) rfl) rfl⟩
theorem mh_L_holds : bk_mh yL_holds cL_holds 7 (some FieldType.int) [(0, 14, 17, 18), (0, 14, 21, 13)] 6 := ⟨bk_in5 (List.mem_of_getElem? (i := 114) rfl) rfl, bk_in1 (List.mem_of_getElem? (i := 0) rfl) rfl, by decide, by decide, by decide +kernel⟩
theorem st_L_holds : Cond.static yL_holds ∈ bk_GW := bk_in5 (List.mem_of_getElem? (i := 113) rfl) rfl
theorem lw_RL_50 : Cond.methodLink RL 50 yX11_holds ∈ bk_GW := bk_in5 (List.mem_of_getElem? (i := 115) rfl) rfl
theorem lw_RL_199 : Cond.methodLink RL 199 yL_holds ∈ bk_GW := bk_in5 (List.mem_of_getElem? (i := 112) rfl) rfl
theorem mc_X11_holds : bk_mc yX11_holds cX11_holds 5 (some FieldType.int) 4 := ⟨bk_in5 (List.mem_of_getElem? (i := 118) rfl) rfl, bk_in1 (List.mem_of_getElem? (i := 1) rfl) rfl, by decide, by decide, by decide +kernel⟩
theorem mv_X11_holds : bk_mv yX11_holds := ⟨bk_in5 (List.mem_of_getElem? (i := 116) rfl) rfl, bk_in5 (List.mem_of_getElem? (i := 117) rfl) rfl⟩
theorem mh_L_glue : bk_mh yL_glue cL_glue 7 (some FieldType.int) [(0, 14, 17, 18), (0, 14, 21, 13)] 6 := ⟨bk_in5 (List.mem_of_getElem? (i := 136) rfl) rfl, bk_in1 (List.mem_of_getElem? (i := 0) rfl) rfl, by decide, by decide, by decide +kernel⟩
theorem st_L_glue : Cond.static yL_glue ∈ bk_GW := bk_in5 (List.mem_of_getElem? (i := 135) rfl) rfl
theorem lw_RL_54 : Cond.methodLink RL 54 yX11_glue ∈ bk_GW := bk_in5 (List.mem_of_getElem? (i := 137) rfl) rfl
theorem lw_RL_203 : Cond.methodLink RL 203 yL_glue ∈ bk_GW := bk_in5 (List.mem_of_getElem? (i := 134) rfl) rfl
theorem mc_X11_glue : bk_mc yX11_glue cX11_glue 5 (some FieldType.int) 4 := ⟨bk_in5 (List.mem_of_getElem? (i := 140) rfl) rfl, bk_in1 (List.mem_of_getElem? (i := 1) rfl) rfl, by decide, by decide, by decide +kernel⟩
theorem mv_X11_glue : bk_mv yX11_glue := ⟨bk_in5 (List.mem_of_getElem? (i := 138) rfl) rfl, bk_in5 (List.mem_of_getElem? (i := 139) rfl) rfl⟩
theorem mh_L_patch : bk_mh yL_patch cL_patch 8 (some FieldType.int) [(0, 23, 26, 18), (0, 23, 30, 13)] 7 := ⟨bk_in5 (List.mem_of_getElem? (i := 148) rfl) rfl, bk_in1 (List.mem_of_getElem? (i := 0) rfl) rfl, by decide, by decide, by decide +kernel⟩
theorem st_L_patch : Cond.static yL_patch ∈ bk_GW := bk_in5 (List.mem_of_getElem? (i := 147) rfl) rfl
theorem lw_RL_57 : Cond.methodLink RL 57 yX11_patch ∈ bk_GW := bk_in5 (List.mem_of_getElem? (i := 149) rfl) rfl
theorem lw_RL_206 : Cond.methodLink RL 206 yL_patch ∈ bk_GW := bk_in5 (List.mem_of_getElem? (i := 146) rfl) rfl
theorem mc_X11_patch : bk_mc yX11_patch cX11_patch 8 (some FieldType.boolean) 5 := ⟨bk_in5 (List.mem_of_getElem? (i := 152) rfl) rfl, bk_in1 (List.mem_of_getElem? (i := 1) rfl) rfl, by decide, by decide, by decide +kernel⟩
theorem mv_X11_patch : bk_mv yX11_patch := ⟨bk_in5 (List.mem_of_getElem? (i := 150) rfl) rfl, bk_in5 (List.mem_of_getElem? (i := 151) rfl) rfl⟩
theorem mh_L_feel : bk_mh yL_feel cL_feel 4 (some FieldType.int) [(0, 9, 12, 18)] 3 := ⟨bk_in5 (List.mem_of_getElem? (i := 155) rfl) rfl, bk_in1 (List.mem_of_getElem? (i := 0) rfl) rfl, by decide, by decide, by decide +kernel⟩
theorem st_L_feel : Cond.static yL_feel ∈ bk_GW := bk_in5 (List.mem_of_getElem? (i := 154) rfl) rfl
theorem lw_RL_61 : Cond.methodLink RL 61 yX11_feel ∈ bk_GW := bk_in5 (List.mem_of_getElem? (i := 156) rfl) rfl
theorem lw_RL_210 : Cond.methodLink RL 210 yL_feel ∈ bk_GW := bk_in5 (List.mem_of_getElem? (i := 153) rfl) rfl
theorem mc_X11_feel : bk_mc yX11_feel cX11_feel 4 (some FieldType.int) 1 := ⟨bk_in5 (List.mem_of_getElem? (i := 159) rfl) rfl, bk_in1 (List.mem_of_getElem? (i := 1) rfl) rfl, by decide, by decide, by decide +kernel⟩
theorem mv_X11_feel : bk_mv yX11_feel := ⟨bk_in5 (List.mem_of_getElem? (i := 157) rfl) rfl, bk_in5 (List.mem_of_getElem? (i := 158) rfl) rfl⟩
theorem mh_L_fits : bk_mh yL_fits cL_fits 4 (some FieldType.int) [(0, 9, 12, 18)] 3 := ⟨bk_in5 (List.mem_of_getElem? (i := 163) rfl) rfl, bk_in1 (List.mem_of_getElem? (i := 0) rfl) rfl, by decide, by decide, by decide +kernel⟩
theorem st_L_fits : Cond.static yL_fits ∈ bk_GW := bk_in5 (List.mem_of_getElem? (i := 162) rfl) rfl
theorem lw_RL_64 : Cond.methodLink RL 64 yX11_fits ∈ bk_GW := bk_in5 (List.mem_of_getElem? (i := 164) rfl) rfl
theorem lw_RL_213 : Cond.methodLink RL 213 yL_fits ∈ bk_GW := bk_in5 (List.mem_of_getElem? (i := 161) rfl) rfl
theorem mc_X11_fits : bk_mc yX11_fits cX11_fits 5 (some FieldType.int) 1 := ⟨bk_in5 (List.mem_of_getElem? (i := 167) rfl) rfl, bk_in1 (List.mem_of_getElem? (i := 1) rfl) rfl, by decide, by decide, by decide +kernel⟩
theorem mv_X11_fits : bk_mv yX11_fits := ⟨bk_in5 (List.mem_of_getElem? (i := 165) rfl) rfl, bk_in5 (List.mem_of_getElem? (i := 166) rfl) rfl⟩
theorem mh_L_cause : bk_mh yL_cause cL_cause 5 (some FieldType.int) [(0, 10, 13, 18)] 4 := ⟨bk_in5 (List.mem_of_getElem? (i := 170) rfl) rfl, bk_in1 (List.mem_of_getElem? (i := 0) rfl) rfl, by decide, by decide, by decide +kernel⟩
theorem st_L_cause : Cond.static yL_cause ∈ bk_GW := bk_in5 (List.mem_of_getElem? (i := 169) rfl) rfl
theorem lw_RL_67 : Cond.methodLink RL 67 yX11_cause ∈ bk_GW := bk_in5 (List.mem_of_getElem? (i := 171) rfl) rfl
theorem lw_RL_216 : Cond.methodLink RL 216 yL_cause ∈ bk_GW := bk_in5 (List.mem_of_getElem? (i := 168) rfl) rfl
theorem mc_X11_cause : bk_mc yX11_cause cX11_cause 11 (some FieldType.int) 2 := ⟨bk_in5 (List.mem_of_getElem? (i := 174) rfl) rfl, bk_in1 (List.mem_of_getElem? (i := 1) rfl) rfl, by decide, by decide, by decide +kernel⟩
theorem mv_X11_cause : bk_mv yX11_cause := ⟨bk_in5 (List.mem_of_getElem? (i := 172) rfl) rfl, bk_in5 (List.mem_of_getElem? (i := 173) rfl) rfl⟩
theorem mh_L_ride : bk_mh yL_ride cL_ride 5 (some FieldType.int) [(0, 10, 13, 18), (0, 10, 17, 13)] 4 := ⟨bk_in5 (List.mem_of_getElem? (i := 189) rfl) rfl, bk_in1 (List.mem_of_getElem? (i := 0) rfl) rfl, by decide, by decide, by decide +kernel⟩
theorem st_L_ride : Cond.static yL_ride ∈ bk_GW := bk_in5 (List.mem_of_getElem? (i := 188) rfl) rfl
theorem lw_RL_70 : Cond.methodLink RL 70 yX11_ride ∈ bk_GW := bk_in5 (List.mem_of_getElem? (i := 190) rfl) rfl
theorem lw_RL_219 : Cond.methodLink RL 219 yL_ride ∈ bk_GW := bk_in5 (List.mem_of_getElem? (i := 187) rfl) rfl
theorem mc_X11_ride : bk_mc yX11_ride cX11_ride 4 (some FieldType.int) 2 := ⟨bk_in5 (List.mem_of_getElem? (i := 193) rfl) rfl, bk_in1 (List.mem_of_getElem? (i := 1) rfl) rfl, by decide, by decide, by decide +kernel⟩
theorem mv_X11_ride : bk_mv yX11_ride := ⟨bk_in5 (List.mem_of_getElem? (i := 191) rfl) rfl, bk_in5 (List.mem_of_getElem? (i := 192) rfl) rfl⟩
theorem mh_L_best : bk_mh yL_best cL_best 8 (some FieldType.int) [(0, 16, 19, 18), (0, 16, 23, 13)] 7 := ⟨bk_in5 (List.mem_of_getElem? (i := 203) rfl) rfl, bk_in1 (List.mem_of_getElem? (i := 0) rfl) rfl, by decide, by decide, by decide +kernel⟩
theorem st_L_best : Cond.static yL_best ∈ bk_GW := bk_in5 (List.mem_of_getElem? (i := 202) rfl) rfl
theorem lw_RL_73 : Cond.methodLink RL 73 yX11_best ∈ bk_GW := bk_in5 (List.mem_of_getElem? (i := 204) rfl) rfl
theorem lw_RL_222 : Cond.methodLink RL 222 yL_best ∈ bk_GW := bk_in5 (List.mem_of_getElem? (i := 201) rfl) rfl
theorem mc_X11_best : bk_mc yX11_best cX11_best 11 (some FieldType.int) 5 := ⟨bk_in5 (List.mem_of_getElem? (i := 207) rfl) rfl, bk_in1 (List.mem_of_getElem? (i := 1) rfl) rfl, by decide, by decide, by decide +kernel⟩
theorem mv_X11_best : bk_mv yX11_best := ⟨bk_in5 (List.mem_of_getElem? (i := 205) rfl) rfl, bk_in5 (List.mem_of_getElem? (i := 206) rfl) rfl⟩
theorem mh_L_dark : bk_mh yL_dark cL_dark 4 (some FieldType.int) [(0, 9, 12, 18)] 3 := ⟨bk_in5 (List.mem_of_getElem? (i := 215) rfl) rfl, bk_in1 (List.mem_of_getElem? (i := 0) rfl) rfl, by decide, by decide, by decide +kernel⟩
theorem st_L_dark : Cond.static yL_dark ∈ bk_GW := bk_in5 (List.mem_of_getElem? (i := 214) rfl) rfl
theorem lw_RL_77 : Cond.methodLink RL 77 yX11_dark ∈ bk_GW := bk_in5 (List.mem_of_getElem? (i := 216) rfl) rfl
theorem lw_RL_225 : Cond.methodLink RL 225 yL_dark ∈ bk_GW := bk_in5 (List.mem_of_getElem? (i := 213) rfl) rfl
theorem mc_X11_dark : bk_mc yX11_dark cX11_dark 2 (some FieldType.int) 1 := ⟨bk_in5 (List.mem_of_getElem? (i := 219) rfl) rfl, bk_in1 (List.mem_of_getElem? (i := 1) rfl) rfl, by decide, by decide, by decide +kernel⟩
theorem mv_X11_dark : bk_mv yX11_dark := ⟨bk_in5 (List.mem_of_getElem? (i := 217) rfl) rfl, bk_in5 (List.mem_of_getElem? (i := 218) rfl) rfl⟩
theorem mh_L_mean : bk_mh yL_mean cL_mean 4 (some FieldType.int) [(0, 9, 12, 18)] 3 := ⟨bk_in5 (List.mem_of_getElem? (i := 230) rfl) rfl, bk_in1 (List.mem_of_getElem? (i := 0) rfl) rfl, by decide, by decide, by decide +kernel⟩
theorem st_L_mean : Cond.static yL_mean ∈ bk_GW := bk_in5 (List.mem_of_getElem? (i := 229) rfl) rfl
theorem lw_RL_80 : Cond.methodLink RL 80 yX11_mean ∈ bk_GW := bk_in5 (List.mem_of_getElem? (i := 231) rfl) rfl
theorem lw_RL_228 : Cond.methodLink RL 228 yL_mean ∈ bk_GW := bk_in5 (List.mem_of_getElem? (i := 228) rfl) rfl
theorem mc_X11_mean : bk_mc yX11_mean cX11_mean 7 (some FieldType.int) 1 := ⟨bk_in5 (List.mem_of_getElem? (i := 234) rfl) rfl, bk_in1 (List.mem_of_getElem? (i := 1) rfl) rfl, by decide, by decide, by decide +kernel⟩
theorem mv_X11_mean : bk_mv yX11_mean := ⟨bk_in5 (List.mem_of_getElem? (i := 232) rfl) rfl, bk_in5 (List.mem_of_getElem? (i := 233) rfl) rfl⟩
theorem mh_L_tacks : bk_mh yL_tacks cL_tacks 4 (some FieldType.int) [(0, 9, 12, 18)] 3 := ⟨bk_in5 (List.mem_of_getElem? (i := 237) rfl) rfl, bk_in1 (List.mem_of_getElem? (i := 0) rfl) rfl, by decide, by decide, by decide +kernel⟩
theorem st_L_tacks : Cond.static yL_tacks ∈ bk_GW := bk_in5 (List.mem_of_getElem? (i := 236) rfl) rfl
theorem lw_RL_83 : Cond.methodLink RL 83 yX11_tacks ∈ bk_GW := bk_in5 (List.mem_of_getElem? (i := 238) rfl) rfl
theorem lw_RL_231 : Cond.methodLink RL 231 yL_tacks ∈ bk_GW := bk_in5 (List.mem_of_getElem? (i := 235) rfl) rfl
theorem mc_X11_tacks : bk_mc yX11_tacks cX11_tacks 6 (some FieldType.int) 1 := ⟨bk_in6 (List.mem_of_getElem? (i := 1) rfl) rfl, bk_in1 (List.mem_of_getElem? (i := 1) rfl) rfl, by decide, by decide, by decide +kernel⟩
theorem mv_X11_tacks : bk_mv yX11_tacks := ⟨bk_in5 (List.mem_of_getElem? (i := 239) rfl) rfl, bk_in6 (List.mem_of_getElem? (i := 0) rfl) rfl⟩
theorem mh_L_cell : bk_mh yL_cell cL_cell 4 (some FieldType.int) [(0, 9, 12, 18)] 3 := ⟨bk_in6 (List.mem_of_getElem? (i := 17) rfl) rfl, bk_in1 (List.mem_of_getElem? (i := 0) rfl) rfl, by decide, by decide, by decide +kernel⟩
theorem st_L_cell : Cond.static yL_cell ∈ bk_GW := bk_in6 (List.mem_of_getElem? (i := 16) rfl) rfl
theorem lw_RL_86 : Cond.methodLink RL 86 yX11_cell ∈ bk_GW := bk_in6 (List.mem_of_getElem? (i := 18) rfl) rfl
theorem lw_RL_234 : Cond.methodLink RL 234 yL_cell ∈ bk_GW := bk_in6 (List.mem_of_getElem? (i := 15) rfl) rfl
theorem mc_X11_cell : bk_mc yX11_cell cX11_cell 2 (some FieldType.int) 1 := ⟨bk_in6 (List.mem_of_getElem? (i := 21) rfl) rfl, bk_in1 (List.mem_of_getElem? (i := 1) rfl) rfl, by decide, by decide, by decide +kernel⟩
theorem mv_X11_cell : bk_mv yX11_cell := ⟨bk_in6 (List.mem_of_getElem? (i := 19) rfl) rfl, bk_in6 (List.mem_of_getElem? (i := 20) rfl) rfl⟩
theorem mh_L_sweep : bk_mh yL_sweep cL_sweep 7 (some FieldType.int) [(0, 14, 17, 18), (0, 14, 21, 13)] 6 := ⟨bk_in6 (List.mem_of_getElem? (i := 24) rfl) rfl, bk_in1 (List.mem_of_getElem? (i := 0) rfl) rfl, by decide, by decide, by decide +kernel⟩
theorem st_L_sweep : Cond.static yL_sweep ∈ bk_GW := bk_in6 (List.mem_of_getElem? (i := 23) rfl) rfl
theorem lw_RL_89 : Cond.methodLink RL 89 yX11_sweep ∈ bk_GW := bk_in6 (List.mem_of_getElem? (i := 25) rfl) rfl
theorem lw_RL_245 : Cond.methodLink RL 245 yL_sweep ∈ bk_GW := bk_in6 (List.mem_of_getElem? (i := 22) rfl) rfl
theorem mc_X11_sweep : bk_mc yX11_sweep cX11_sweep 5 (some FieldType.int) 4 := ⟨bk_in6 (List.mem_of_getElem? (i := 28) rfl) rfl, bk_in1 (List.mem_of_getElem? (i := 1) rfl) rfl, by decide, by decide, by decide +kernel⟩
theorem mv_X11_sweep : bk_mv yX11_sweep := ⟨bk_in6 (List.mem_of_getElem? (i := 26) rfl) rfl, bk_in6 (List.mem_of_getElem? (i := 27) rfl) rfl⟩
theorem mh_L_seeks : bk_mh yL_seeks cL_seeks 7 (some FieldType.int) [(0, 14, 17, 18), (0, 14, 21, 13)] 6 := ⟨bk_in6 (List.mem_of_getElem? (i := 31) rfl) rfl, bk_in1 (List.mem_of_getElem? (i := 0) rfl) rfl, by decide, by decide, by decide +kernel⟩
theorem st_L_seeks : Cond.static yL_seeks ∈ bk_GW := bk_in6 (List.mem_of_getElem? (i := 30) rfl) rfl
theorem lw_RL_93 : Cond.methodLink RL 93 yX11_seeks ∈ bk_GW := bk_in6 (List.mem_of_getElem? (i := 32) rfl) rfl
theorem lw_RL_249 : Cond.methodLink RL 249 yL_seeks ∈ bk_GW := bk_in6 (List.mem_of_getElem? (i := 29) rfl) rfl
theorem mc_X11_seeks : bk_mc yX11_seeks cX11_seeks 12 (some FieldType.int) 4 := ⟨bk_in6 (List.mem_of_getElem? (i := 35) rfl) rfl, bk_in1 (List.mem_of_getElem? (i := 1) rfl) rfl, by decide, by decide, by decide +kernel⟩
theorem mv_X11_seeks : bk_mv yX11_seeks := ⟨bk_in6 (List.mem_of_getElem? (i := 33) rfl) rfl, bk_in6 (List.mem_of_getElem? (i := 34) rfl) rfl⟩
theorem mh_L_enough : bk_mh yL_enough cL_enough 4 (some FieldType.int) [(0, 9, 12, 13)] 3 := ⟨bk_in6 (List.mem_of_getElem? (i := 38) rfl) rfl, bk_in1 (List.mem_of_getElem? (i := 0) rfl) rfl, by decide, by decide, by decide +kernel⟩
theorem st_L_enough : Cond.static yL_enough ∈ bk_GW := bk_in6 (List.mem_of_getElem? (i := 37) rfl) rfl
theorem lw_RL_97 : Cond.methodLink RL 97 yX11_enough ∈ bk_GW := bk_in6 (List.mem_of_getElem? (i := 39) rfl) rfl
theorem lw_RL_253 : Cond.methodLink RL 253 yL_enough ∈ bk_GW := bk_in6 (List.mem_of_getElem? (i := 36) rfl) rfl
theorem mc_X11_enough : bk_mc yX11_enough cX11_enough 5 (some FieldType.int) 1 := ⟨bk_in6 (List.mem_of_getElem? (i := 42) rfl) rfl, bk_in1 (List.mem_of_getElem? (i := 1) rfl) rfl, by decide, by decide, by decide +kernel⟩
theorem mv_X11_enough : bk_mv yX11_enough := ⟨bk_in6 (List.mem_of_getElem? (i := 40) rfl) rfl, bk_in6 (List.mem_of_getElem? (i := 41) rfl) rfl⟩
theorem mh_L_ofInch : bk_mh yL_ofInch cL_ofInch 4 (some FieldType.int) [(0, 9, 12, 18)] 3 := ⟨bk_in6 (List.mem_of_getElem? (i := 50) rfl) rfl, bk_in1 (List.mem_of_getElem? (i := 0) rfl) rfl, by decide, by decide, by decide +kernel⟩
theorem st_L_ofInch : Cond.static yL_ofInch ∈ bk_GW := bk_in6 (List.mem_of_getElem? (i := 49) rfl) rfl
theorem lw_RL_100 : Cond.methodLink RL 100 yX11_ofInch ∈ bk_GW := bk_in6 (List.mem_of_getElem? (i := 51) rfl) rfl
theorem lw_RL_256 : Cond.methodLink RL 256 yL_ofInch ∈ bk_GW := bk_in6 (List.mem_of_getElem? (i := 48) rfl) rfl
theorem mc_X11_ofInch : bk_mc yX11_ofInch cX11_ofInch 2 (some FieldType.int) 1 := ⟨bk_in6 (List.mem_of_getElem? (i := 54) rfl) rfl, bk_in1 (List.mem_of_getElem? (i := 1) rfl) rfl, by decide, by decide, by decide +kernel⟩
theorem mv_X11_ofInch : bk_mv yX11_ofInch := ⟨bk_in6 (List.mem_of_getElem? (i := 52) rfl) rfl, bk_in6 (List.mem_of_getElem? (i := 53) rfl) rfl⟩
theorem mh_L_ofSide : bk_mh yL_ofSide cL_ofSide 4 (some FieldType.int) [(0, 9, 12, 18)] 3 := ⟨bk_in6 (List.mem_of_getElem? (i := 57) rfl) rfl, bk_in1 (List.mem_of_getElem? (i := 0) rfl) rfl, by decide, by decide, by decide +kernel⟩
theorem st_L_ofSide : Cond.static yL_ofSide ∈ bk_GW := bk_in6 (List.mem_of_getElem? (i := 56) rfl) rfl
theorem lw_RL_103 : Cond.methodLink RL 103 yX11_ofSide ∈ bk_GW := bk_in6 (List.mem_of_getElem? (i := 58) rfl) rfl
theorem lw_RL_259 : Cond.methodLink RL 259 yL_ofSide ∈ bk_GW := bk_in6 (List.mem_of_getElem? (i := 55) rfl) rfl
theorem mc_X11_ofSide : bk_mc yX11_ofSide cX11_ofSide 2 (some FieldType.int) 1 := ⟨bk_in6 (List.mem_of_getElem? (i := 61) rfl) rfl, bk_in1 (List.mem_of_getElem? (i := 1) rfl) rfl, by decide, by decide, by decide +kernel⟩
theorem mv_X11_ofSide : bk_mv yX11_ofSide := ⟨bk_in6 (List.mem_of_getElem? (i := 59) rfl) rfl, bk_in6 (List.mem_of_getElem? (i := 60) rfl) rfl⟩
theorem mh_L_flatIf : bk_mh yL_flatIf cL_flatIf 5 (some FieldType.int) [(0, 10, 13, 13)] 4 := ⟨bk_in6 (List.mem_of_getElem? (i := 67) rfl) rfl, bk_in1 (List.mem_of_getElem? (i := 0) rfl) rfl, by decide, by decide, by decide +kernel⟩
theorem st_L_flatIf : Cond.static yL_flatIf ∈ bk_GW := bk_in6 (List.mem_of_getElem? (i := 66) rfl) rfl
theorem lw_RL_106 : Cond.methodLink RL 106 yX11_flatIf ∈ bk_GW := bk_in6 (List.mem_of_getElem? (i := 68) rfl) rfl
theorem lw_RL_262 : Cond.methodLink RL 262 yL_flatIf ∈ bk_GW := bk_in6 (List.mem_of_getElem? (i := 65) rfl) rfl
theorem mc_X11_flatIf : bk_mc yX11_flatIf cX11_flatIf 3 (some FieldType.int) 2 := ⟨bk_in6 (List.mem_of_getElem? (i := 71) rfl) rfl, bk_in1 (List.mem_of_getElem? (i := 1) rfl) rfl, by decide, by decide, by decide +kernel⟩
theorem mv_X11_flatIf : bk_mv yX11_flatIf := ⟨bk_in6 (List.mem_of_getElem? (i := 69) rfl) rfl, bk_in6 (List.mem_of_getElem? (i := 70) rfl) rfl⟩
theorem mh_L_which : bk_mh yL_which cL_which 6 (some FieldType.int) [(0, 12, 15, 18)] 5 := ⟨bk_in6 (List.mem_of_getElem? (i := 78) rfl) rfl, bk_in1 (List.mem_of_getElem? (i := 0) rfl) rfl, by decide, by decide, by decide +kernel⟩
theorem st_L_which : Cond.static yL_which ∈ bk_GW := bk_in6 (List.mem_of_getElem? (i := 77) rfl) rfl
theorem lw_RL_110 : Cond.methodLink RL 110 yX11_which ∈ bk_GW := bk_in6 (List.mem_of_getElem? (i := 79) rfl) rfl
theorem lw_RL_266 : Cond.methodLink RL 266 yL_which ∈ bk_GW := bk_in6 (List.mem_of_getElem? (i := 76) rfl) rfl
theorem mc_X11_which : bk_mc yX11_which cX11_which 7 (some FieldType.int) 3 := ⟨bk_in6 (List.mem_of_getElem? (i := 82) rfl) rfl, bk_in1 (List.mem_of_getElem? (i := 1) rfl) rfl, by decide, by decide, by decide +kernel⟩
theorem mv_X11_which : bk_mv yX11_which := ⟨bk_in6 (List.mem_of_getElem? (i := 80) rfl) rfl, bk_in6 (List.mem_of_getElem? (i := 81) rfl) rfl⟩
theorem mh_L_rides : bk_mh yL_rides cL_rides 4 (some FieldType.int) [(0, 9, 12, 13)] 3 := ⟨bk_in6 (List.mem_of_getElem? (i := 85) rfl) rfl, bk_in1 (List.mem_of_getElem? (i := 0) rfl) rfl, by decide, by decide, by decide +kernel⟩
theorem st_L_rides : Cond.static yL_rides ∈ bk_GW := bk_in6 (List.mem_of_getElem? (i := 84) rfl) rfl
theorem lw_RL_113 : Cond.methodLink RL 113 yX11_rides ∈ bk_GW := bk_in6 (List.mem_of_getElem? (i := 86) rfl) rfl
theorem lw_RL_269 : Cond.methodLink RL 269 yL_rides ∈ bk_GW := bk_in6 (List.mem_of_getElem? (i := 83) rfl) rfl
theorem mc_X11_rides : bk_mc yX11_rides cX11_rides 5 (some FieldType.int) 1 := ⟨bk_in6 (List.mem_of_getElem? (i := 89) rfl) rfl, bk_in1 (List.mem_of_getElem? (i := 1) rfl) rfl, by decide, by decide, by decide +kernel⟩
theorem mv_X11_rides : bk_mv yX11_rides := ⟨bk_in6 (List.mem_of_getElem? (i := 87) rfl) rfl, bk_in6 (List.mem_of_getElem? (i := 88) rfl) rfl⟩
