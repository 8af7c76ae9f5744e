theorem lk_RL_120 : bk_lk RL 120 yX11_feed := Or.inl (bk_in2 (List.mem_of_getElem? (i := 138) rfl) rfl)
theorem mc_X11_feed : bk_mc yX11_feed cX11_feed 6 (some FieldType.int) 5 := ⟨bk_in2 (List.mem_of_getElem? (i := 141) rfl) rfl, bk_in1 (List.mem_of_getElem? (i := 1) rfl) rfl, by decide, by decide, by decide +kernel⟩
theorem mv_X11_feed : bk_mv yX11_feed := ⟨bk_in2 (List.mem_of_getElem? (i := 139) rfl) rfl, bk_in2 (List.mem_of_getElem? (i := 140) rfl) rfl⟩
theorem lk_RL_123 : bk_lk RL 123 yX12_feed := Or.inl (bk_in7 (List.mem_of_getElem? (i := 134) rfl) rfl)
theorem mc_X12_feed : bk_mc yX12_feed cX12_feed 6 (some FieldType.int) 5 := ⟨bk_in7 (List.mem_of_getElem? (i := 137) rfl) rfl, bk_in1 (List.mem_of_getElem? (i := 14) rfl) rfl, by decide, by decide, by decide +kernel⟩
theorem mv_X12_feed : bk_mv yX12_feed := ⟨bk_in7 (List.mem_of_getElem? (i := 135) rfl) rfl, bk_in7 (List.mem_of_getElem? (i := 136) rfl) rfl⟩
theorem lk_RL_129 : bk_lk RL 129 yX12_shed := Or.inl (bk_in7 (List.mem_of_getElem? (i := 142) rfl) rfl)
theorem mc_X12_shed : bk_mc yX12_shed cX12_shed 2 (some FieldType.int) 1 := ⟨bk_in7 (List.mem_of_getElem? (i := 145) rfl) rfl, bk_in1 (List.mem_of_getElem? (i := 14) rfl) rfl, by decide, by decide, by decide +kernel⟩
theorem mv_X12_shed : bk_mv yX12_shed := ⟨bk_in7 (List.mem_of_getElem? (i := 143) rfl) rfl, bk_in7 (List.mem_of_getElem? (i := 144) rfl) rfl⟩
theorem lk_RL_130 : bk_lk RL 130 yX12_thrown := Or.inl (bk_in7 (List.mem_of_getElem? (i := 130) rfl) rfl)
theorem mc_X12_thrown : bk_mc yX12_thrown cX12_thrown 1 (some FieldType.int) 0 := ⟨bk_in7 (List.mem_of_getElem? (i := 133) rfl) rfl, bk_in1 (List.mem_of_getElem? (i := 14) rfl) rfl, by decide, by decide, by decide +kernel⟩
theorem mv_X12_thrown : bk_mv yX12_thrown := ⟨bk_in7 (List.mem_of_getElem? (i := 131) rfl) rfl, bk_in7 (List.mem_of_getElem? (i := 132) rfl) rfl⟩
theorem lk_RL_134 : bk_lk RL 134 yX11_fault := Or.inl (bk_in2 (List.mem_of_getElem? (i := 150) rfl) rfl)
theorem mc_X11_fault : bk_mc yX11_fault cX11_fault 1 (some FieldType.int) 0 := ⟨bk_in2 (List.mem_of_getElem? (i := 153) rfl) rfl, bk_in1 (List.mem_of_getElem? (i := 1) rfl) rfl, by decide, by decide, by decide +kernel⟩
theorem mv_X11_fault : bk_mv yX11_fault := ⟨bk_in2 (List.mem_of_getElem? (i := 151) rfl) rfl, bk_in2 (List.mem_of_getElem? (i := 152) rfl) rfl⟩
theorem lk_RL_137 : bk_lk RL 137 yX12_fault := Or.inl (bk_in8 (List.mem_of_getElem? (i := 29) rfl) rfl)
theorem mc_X12_fault : bk_mc yX12_fault cX12_fault 1 (some FieldType.int) 0 := ⟨bk_in8 (List.mem_of_getElem? (i := 32) rfl) rfl, bk_in1 (List.mem_of_getElem? (i := 14) rfl) rfl, by decide, by decide, by decide +kernel⟩
theorem mv_X12_fault : bk_mv yX12_fault := ⟨bk_in8 (List.mem_of_getElem? (i := 30) rfl) rfl, bk_in8 (List.mem_of_getElem? (i := 31) rfl) rfl⟩
theorem lk_RL_140 : bk_lk RL 140 yX12_count := Or.inl (bk_in8 (List.mem_of_getElem? (i := 33) rfl) rfl)
theorem mc_X12_count : bk_mc yX12_count cX12_count 2 (some FieldType.int) 1 := ⟨bk_in8 (List.mem_of_getElem? (i := 36) rfl) rfl, bk_in1 (List.mem_of_getElem? (i := 14) rfl) rfl, by decide, by decide, by decide +kernel⟩
theorem mv_X12_count : bk_mv yX12_count := ⟨bk_in8 (List.mem_of_getElem? (i := 34) rfl) rfl, bk_in8 (List.mem_of_getElem? (i := 35) rfl) rfl⟩
theorem lk_RL_144 : bk_lk RL 144 yX12_hole := Or.inl (bk_in8 (List.mem_of_getElem? (i := 40) rfl) rfl)
theorem mc_X12_hole : bk_mc yX12_hole cX12_hole 3 (some FieldType.int) 2 := ⟨bk_in8 (List.mem_of_getElem? (i := 43) rfl) rfl, bk_in1 (List.mem_of_getElem? (i := 14) rfl) rfl, by decide, by decide, by decide +kernel⟩
theorem mv_X12_hole : bk_mv yX12_hole := ⟨bk_in8 (List.mem_of_getElem? (i := 41) rfl) rfl, bk_in8 (List.mem_of_getElem? (i := 42) rfl) rfl⟩
theorem lk_RL_145 : bk_lk RL 145 yX11_leak := Or.inl (bk_in2 (List.mem_of_getElem? (i := 154) rfl) rfl)
theorem mc_X11_leak : bk_mc yX11_leak cX11_leak 2 (some FieldType.int) 1 := ⟨bk_in2 (List.mem_of_getElem? (i := 157) rfl) rfl, bk_in1 (List.mem_of_getElem? (i := 1) rfl) rfl, by decide, by decide, by decide +kernel⟩
theorem mv_X11_leak : bk_mv yX11_leak := ⟨bk_in2 (List.mem_of_getElem? (i := 155) rfl) rfl, bk_in2 (List.mem_of_getElem? (i := 156) rfl) rfl⟩
theorem lk_RL_149 : bk_lk RL 149 yX12_leak := Or.inl (bk_in8 (List.mem_of_getElem? (i := 56) rfl) rfl)
theorem mc_X12_leak : bk_mc yX12_leak cX12_leak 2 (some FieldType.int) 1 := ⟨bk_in8 (List.mem_of_getElem? (i := 59) rfl) rfl, bk_in1 (List.mem_of_getElem? (i := 14) rfl) rfl, by decide, by decide, by decide +kernel⟩
theorem mv_X12_leak : bk_mv yX12_leak := ⟨bk_in8 (List.mem_of_getElem? (i := 57) rfl) rfl, bk_in8 (List.mem_of_getElem? (i := 58) rfl) rfl⟩
theorem lk_RL_150 : bk_lk RL 150 yX11_minutes := Or.inl (bk_in2 (List.mem_of_getElem? (i := 195) rfl) rfl)
theorem mc_X11_minutes : bk_mc yX11_minutes cX11_minutes 6 (some FieldType.int) 2 := ⟨bk_in2 (List.mem_of_getElem? (i := 198) rfl) rfl, bk_in1 (List.mem_of_getElem? (i := 1) rfl) rfl, by decide, by decide, by decide +kernel⟩
theorem mv_X11_minutes : bk_mv yX11_minutes := ⟨bk_in2 (List.mem_of_getElem? (i := 196) rfl) rfl, bk_in2 (List.mem_of_getElem? (i := 197) rfl) rfl⟩
theorem lk_RL_153 : bk_lk RL 153 yX12_minutes := Or.inl (bk_in8 (List.mem_of_getElem? (i := 87) rfl) rfl)
theorem mc_X12_minutes : bk_mc yX12_minutes cX12_minutes 4 (some FieldType.int) 2 := ⟨bk_in8 (List.mem_of_getElem? (i := 90) rfl) rfl, bk_in1 (List.mem_of_getElem? (i := 14) rfl) rfl, by decide, by decide, by decide +kernel⟩
theorem mv_X12_minutes : bk_mv yX12_minutes := ⟨bk_in8 (List.mem_of_getElem? (i := 88) rfl) rfl, bk_in8 (List.mem_of_getElem? (i := 89) rfl) rfl⟩
theorem lk_RL_154 : bk_lk RL 154 yX11_pump := Or.inl (bk_in2 (List.mem_of_getElem? (i := 213) rfl) rfl)
theorem mc_X11_pump : bk_mc yX11_pump cX11_pump 2 (some FieldType.int) 0 := ⟨bk_in2 (List.mem_of_getElem? (i := 216) rfl) rfl, bk_in1 (List.mem_of_getElem? (i := 1) rfl) rfl, by decide, by decide, by decide +kernel⟩
theorem mv_X11_pump : bk_mv yX11_pump := ⟨bk_in2 (List.mem_of_getElem? (i := 214) rfl) rfl, bk_in2 (List.mem_of_getElem? (i := 215) rfl) rfl⟩
theorem lk_RL_157 : bk_lk RL 157 yX12_pump := Or.inl (bk_in8 (List.mem_of_getElem? (i := 99) rfl) rfl)
theorem mc_X12_pump : bk_mc yX12_pump cX12_pump 2 (some FieldType.int) 0 := ⟨bk_in8 (List.mem_of_getElem? (i := 102) rfl) rfl, bk_in1 (List.mem_of_getElem? (i := 14) rfl) rfl, by decide, by decide, by decide +kernel⟩
theorem mv_X12_pump : bk_mv yX12_pump := ⟨bk_in8 (List.mem_of_getElem? (i := 100) rfl) rfl, bk_in8 (List.mem_of_getElem? (i := 101) rfl) rfl⟩
theorem lk_RL_158 : bk_lk RL 158 yX11_undo := Or.inl (bk_in2 (List.mem_of_getElem? (i := 218) rfl) rfl)
theorem mc_X11_undo : bk_mc yX11_undo cX11_undo 1 (some FieldType.int) 0 := ⟨bk_in2 (List.mem_of_getElem? (i := 221) rfl) rfl, bk_in1 (List.mem_of_getElem? (i := 1) rfl) rfl, by decide, by decide, by decide +kernel⟩
theorem mv_X11_undo : bk_mv yX11_undo := ⟨bk_in2 (List.mem_of_getElem? (i := 219) rfl) rfl, bk_in2 (List.mem_of_getElem? (i := 220) rfl) rfl⟩
theorem lk_RL_161 : bk_lk RL 161 yX12_undo := Or.inl (bk_in8 (List.mem_of_getElem? (i := 52) rfl) rfl)
theorem mc_X12_undo : bk_mc yX12_undo cX12_undo 2 (some FieldType.int) 0 := ⟨bk_in8 (List.mem_of_getElem? (i := 55) rfl) rfl, bk_in1 (List.mem_of_getElem? (i := 14) rfl) rfl, by decide, by decide, by decide +kernel⟩
theorem mv_X12_undo : bk_mv yX12_undo := ⟨bk_in8 (List.mem_of_getElem? (i := 53) rfl) rfl, bk_in8 (List.mem_of_getElem? (i := 54) rfl) rfl⟩
theorem lk_RL_162 : bk_lk RL 162 yX11_flat := Or.inl (bk_in2 (List.mem_of_getElem? (i := 226) rfl) rfl)
theorem mc_X11_flat : bk_mc yX11_flat cX11_flat 2 (some FieldType.int) 1 := ⟨bk_in2 (List.mem_of_getElem? (i := 229) rfl) rfl, bk_in1 (List.mem_of_getElem? (i := 1) rfl) rfl, by decide, by decide, by decide +kernel⟩
theorem mv_X11_flat : bk_mv yX11_flat := ⟨bk_in2 (List.mem_of_getElem? (i := 227) rfl) rfl, bk_in2 (List.mem_of_getElem? (i := 228) rfl) rfl⟩
theorem lk_RL_165 : bk_lk RL 165 yX12_flat := Or.inl (bk_in8 (List.mem_of_getElem? (i := 103) rfl) rfl)
theorem mc_X12_flat : bk_mc yX12_flat cX12_flat 2 (some FieldType.int) 1 := ⟨bk_in8 (List.mem_of_getElem? (i := 106) rfl) rfl, bk_in1 (List.mem_of_getElem? (i := 14) rfl) rfl, by decide, by decide, by decide +kernel⟩
theorem mv_X12_flat : bk_mv yX12_flat := ⟨bk_in8 (List.mem_of_getElem? (i := 104) rfl) rfl, bk_in8 (List.mem_of_getElem? (i := 105) rfl) rfl⟩
theorem lk_RL_166 : bk_lk RL 166 yX11_dip := Or.inl (bk_in3 (List.mem_of_getElem? (i := 2) rfl) rfl)
theorem mc_X11_dip : bk_mc yX11_dip cX11_dip 5 (some FieldType.int) 2 := ⟨bk_in3 (List.mem_of_getElem? (i := 5) rfl) rfl, bk_in1 (List.mem_of_getElem? (i := 1) rfl) rfl, by decide, by decide, by decide +kernel⟩
theorem mv_X11_dip : bk_mv yX11_dip := ⟨bk_in3 (List.mem_of_getElem? (i := 3) rfl) rfl, bk_in3 (List.mem_of_getElem? (i := 4) rfl) rfl⟩
theorem lk_RL_169 : bk_lk RL 169 yX12_dip := Or.inl (bk_in8 (List.mem_of_getElem? (i := 119) rfl) rfl)
theorem mc_X12_dip : bk_mc yX12_dip cX12_dip 4 (some FieldType.int) 2 := ⟨bk_in8 (List.mem_of_getElem? (i := 122) rfl) rfl, bk_in1 (List.mem_of_getElem? (i := 14) rfl) rfl, by decide, by decide, by decide +kernel⟩
theorem mv_X12_dip : bk_mv yX12_dip := ⟨bk_in8 (List.mem_of_getElem? (i := 120) rfl) rfl, bk_in8 (List.mem_of_getElem? (i := 121) rfl) rfl⟩
theorem lk_RL_170 : bk_lk RL 170 yX11_listen := Or.inl (bk_in3 (List.mem_of_getElem? (i := 44) rfl) rfl)
theorem mc_X11_listen : bk_mc yX11_listen cX11_listen 5 (some FieldType.int) 2 := ⟨bk_in3 (List.mem_of_getElem? (i := 47) rfl) rfl, bk_in1 (List.mem_of_getElem? (i := 1) rfl) rfl, by decide, by decide, by decide +kernel⟩
theorem mv_X11_listen : bk_mv yX11_listen := ⟨bk_in3 (List.mem_of_getElem? (i := 45) rfl) rfl, bk_in3 (List.mem_of_getElem? (i := 46) rfl) rfl⟩
theorem lk_RL_173 : bk_lk RL 173 yX12_listen := Or.inl (bk_in8 (List.mem_of_getElem? (i := 140) rfl) rfl)
theorem mc_X12_listen : bk_mc yX12_listen cX12_listen 5 (some FieldType.int) 2 := ⟨bk_in8 (List.mem_of_getElem? (i := 143) rfl) rfl, bk_in1 (List.mem_of_getElem? (i := 14) rfl) rfl, by decide, by decide, by decide +kernel⟩
theorem mv_X12_listen : bk_mv yX12_listen := ⟨bk_in8 (List.mem_of_getElem? (i := 141) rfl) rfl, bk_in8 (List.mem_of_getElem? (i := 142) rfl) rfl⟩
theorem lk_RL_176 : bk_lk RL 176 yX12_weight := Or.inl (bk_in8 (List.mem_of_getElem? (i := 151) rfl) rfl)
theorem mc_X12_weight : bk_mc yX12_weight cX12_weight 2 (some FieldType.long) 1 := ⟨bk_in8 (List.mem_of_getElem? (i := 154) rfl) rfl, bk_in1 (List.mem_of_getElem? (i := 14) rfl) rfl, by decide, by decide, by decide +kernel⟩
theorem mv_X12_weight : bk_mv yX12_weight := ⟨bk_in8 (List.mem_of_getElem? (i := 152) rfl) rfl, bk_in8 (List.mem_of_getElem? (i := 153) rfl) rfl⟩
theorem lk_RL_179 : bk_lk RL 179 yX12_odds := Or.inl (bk_in8 (List.mem_of_getElem? (i := 155) rfl) rfl)
theorem mc_X12_odds : bk_mc yX12_odds cX12_odds 2 (some FieldType.int) 1 := ⟨bk_in8 (List.mem_of_getElem? (i := 158) rfl) rfl, bk_in1 (List.mem_of_getElem? (i := 14) rfl) rfl, by decide, by decide, by decide +kernel⟩
theorem mv_X12_odds : bk_mv yX12_odds := ⟨bk_in8 (List.mem_of_getElem? (i := 156) rfl) rfl, bk_in8 (List.mem_of_getElem? (i := 157) rfl) rfl⟩
theorem lk_RL_182 : bk_lk RL 182 yX12_next := Or.inl (bk_in8 (List.mem_of_getElem? (i := 178) rfl) rfl)
theorem mc_X12_next : bk_mc yX12_next cX12_next 4 (some FieldType.int) 1 := ⟨bk_in8 (List.mem_of_getElem? (i := 181) rfl) rfl, bk_in1 (List.mem_of_getElem? (i := 14) rfl) rfl, by decide, by decide, by decide +kernel⟩
theorem mv_X12_next : bk_mv yX12_next := ⟨bk_in8 (List.mem_of_getElem? (i := 179) rfl) rfl, bk_in8 (List.mem_of_getElem? (i := 180) rfl) rfl⟩
theorem lk_RL_185 : bk_lk RL 185 yX12_plan := Or.inl (bk_in8 (List.mem_of_getElem? (i := 190) rfl) rfl)
theorem mc_X12_plan : bk_mc yX12_plan cX12_plan 4 (some FieldType.int) 1 := ⟨bk_in8 (List.mem_of_getElem? (i := 193) rfl) rfl, bk_in1 (List.mem_of_getElem? (i := 14) rfl) rfl, by decide, by decide, by decide +kernel⟩
theorem mv_X12_plan : bk_mv yX12_plan := ⟨bk_in8 (List.mem_of_getElem? (i := 191) rfl) rfl, bk_in8 (List.mem_of_getElem? (i := 192) rfl) rfl⟩
theorem lk_RL_188 : bk_lk RL 188 yX12_planned := Or.inl (bk_in8 (List.mem_of_getElem? (i := 194) rfl) rfl)
theorem mc_X12_planned : bk_mc yX12_planned cX12_planned 2 (some FieldType.int) 1 := ⟨bk_in8 (List.mem_of_getElem? (i := 197) rfl) rfl, bk_in1 (List.mem_of_getElem? (i := 14) rfl) rfl, by decide, by decide, by decide +kernel⟩
theorem mv_X12_planned : bk_mv yX12_planned := ⟨bk_in8 (List.mem_of_getElem? (i := 195) rfl) rfl, bk_in8 (List.mem_of_getElem? (i := 196) rfl) rfl⟩
theorem lk_RL_192 : bk_lk RL 192 yX12_seek := Or.inl (bk_in8 (List.mem_of_getElem? (i := 203) rfl) rfl)
theorem mc_X12_seek : bk_mc yX12_seek cX12_seek 4 (some FieldType.int) 3 := ⟨bk_in8 (List.mem_of_getElem? (i := 206) rfl) rfl, bk_in1 (List.mem_of_getElem? (i := 14) rfl) rfl, by decide, by decide, by decide +kernel⟩
theorem mv_X12_seek : bk_mv yX12_seek := ⟨bk_in8 (List.mem_of_getElem? (i := 204) rfl) rfl, bk_in8 (List.mem_of_getElem? (i := 205) rfl) rfl⟩
theorem lk_RL_195 : bk_lk RL 195 yX12_air := Or.inl (bk_in8 (List.mem_of_getElem? (i := 228) rfl) rfl)
theorem mc_X12_air : bk_mc yX12_air cX12_air 2 (some FieldType.int) 1 := ⟨bk_in8 (List.mem_of_getElem? (i := 231) rfl) rfl, bk_in1 (List.mem_of_getElem? (i := 14) rfl) rfl, by decide, by decide, by decide +kernel⟩
theorem mv_X12_air : bk_mv yX12_air := ⟨bk_in8 (List.mem_of_getElem? (i := 229) rfl) rfl, bk_in8 (List.mem_of_getElem? (i := 230) rfl) rfl⟩
theorem lk_RL_198 : bk_lk RL 198 yX12_line := Or.inl (bk_in8 (List.mem_of_getElem? (i := 236) rfl) rfl)
theorem mc_X12_line : bk_mc yX12_line cX12_line 3 (some FieldType.int) 1 := ⟨bk_in8 (List.mem_of_getElem? (i := 239) rfl) rfl, bk_in1 (List.mem_of_getElem? (i := 14) rfl) rfl, by decide, by decide, by decide +kernel⟩
theorem mv_X12_line : bk_mv yX12_line := ⟨bk_in8 (List.mem_of_getElem? (i := 237) rfl) rfl, bk_in8 (List.mem_of_getElem? (i := 238) rfl) rfl⟩
theorem lk_RL_202 : bk_lk RL 202 yX12_holds := Or.inl (bk_in9 (List.mem_of_getElem? (i := 0) rfl) rfl)
theorem mc_X12_holds : bk_mc yX12_holds cX12_holds 5 (some FieldType.int) 4 := ⟨bk_in9 (List.mem_of_getElem? (i := 3) rfl) rfl, bk_in1 (List.mem_of_getElem? (i := 14) rfl) rfl, by decide, by decide, by decide +kernel⟩
theorem mv_X12_holds : bk_mv yX12_holds := ⟨bk_in9 (List.mem_of_getElem? (i := 1) rfl) rfl, bk_in9 (List.mem_of_getElem? (i := 2) rfl) rfl⟩
theorem lk_RL_205 : bk_lk RL 205 yX12_glue := Or.inl (bk_in9 (List.mem_of_getElem? (i := 15) rfl) rfl)
theorem mc_X12_glue : bk_mc yX12_glue cX12_glue 5 (some FieldType.int) 4 := ⟨bk_in9 (List.mem_of_getElem? (i := 18) rfl) rfl, bk_in1 (List.mem_of_getElem? (i := 14) rfl) rfl, by decide, by decide, by decide +kernel⟩
theorem mv_X12_glue : bk_mv yX12_glue := ⟨bk_in9 (List.mem_of_getElem? (i := 16) rfl) rfl, bk_in9 (List.mem_of_getElem? (i := 17) rfl) rfl⟩
theorem lk_RL_209 : bk_lk RL 209 yX12_patch := Or.inl (bk_in9 (List.mem_of_getElem? (i := 23) rfl) rfl)
theorem mc_X12_patch : bk_mc yX12_patch cX12_patch 7 (some FieldType.boolean) 5 := ⟨bk_in9 (List.mem_of_getElem? (i := 26) rfl) rfl, bk_in1 (List.mem_of_getElem? (i := 14) rfl) rfl, by decide, by decide, by decide +kernel⟩
theorem mv_X12_patch : bk_mv yX12_patch := ⟨bk_in9 (List.mem_of_getElem? (i := 24) rfl) rfl, bk_in9 (List.mem_of_getElem? (i := 25) rfl) rfl⟩
theorem lk_RL_212 : bk_lk RL 212 yX12_feel := Or.inl (bk_in9 (List.mem_of_getElem? (i := 27) rfl) rfl)
theorem mc_X12_feel : bk_mc yX12_feel cX12_feel 2 (some FieldType.int) 1 := ⟨bk_in9 (List.mem_of_getElem? (i := 30) rfl) rfl, bk_in1 (List.mem_of_getElem? (i := 14) rfl) rfl, by decide, by decide, by decide +kernel⟩
theorem mv_X12_feel : bk_mv yX12_feel := ⟨bk_in9 (List.mem_of_getElem? (i := 28) rfl) rfl, bk_in9 (List.mem_of_getElem? (i := 29) rfl) rfl⟩
theorem lk_RL_215 : bk_lk RL 215 yX12_fits := Or.inl (bk_in9 (List.mem_of_getElem? (i := 35) rfl) rfl)
theorem mc_X12_fits : bk_mc yX12_fits cX12_fits 4 (some FieldType.int) 1 := ⟨bk_in9 (List.mem_of_getElem? (i := 38) rfl) rfl, bk_in1 (List.mem_of_getElem? (i := 14) rfl) rfl, by decide, by decide, by decide +kernel⟩
theorem mv_X12_fits : bk_mv yX12_fits := ⟨bk_in9 (List.mem_of_getElem? (i := 36) rfl) rfl, bk_in9 (List.mem_of_getElem? (i := 37) rfl) rfl⟩
theorem lk_RL_218 : bk_lk RL 218 yX12_cause := Or.inl (bk_in9 (List.mem_of_getElem? (i := 39) rfl) rfl)
theorem mc_X12_cause : bk_mc yX12_cause cX12_cause 7 (some FieldType.int) 2 := ⟨bk_in9 (List.mem_of_getElem? (i := 42) rfl) rfl, bk_in1 (List.mem_of_getElem? (i := 14) rfl) rfl, by decide, by decide, by decide +kernel⟩
theorem mv_X12_cause : bk_mv yX12_cause := ⟨bk_in9 (List.mem_of_getElem? (i := 40) rfl) rfl, bk_in9 (List.mem_of_getElem? (i := 41) rfl) rfl⟩
theorem lk_RL_221 : bk_lk RL 221 yX12_ride := Or.inl (bk_in9 (List.mem_of_getElem? (i := 48) rfl) rfl)
theorem mc_X12_ride : bk_mc yX12_ride cX12_ride 4 (some FieldType.int) 2 := ⟨bk_in9 (List.mem_of_getElem? (i := 51) rfl) rfl, bk_in1 (List.mem_of_getElem? (i := 14) rfl) rfl, by decide, by decide, by decide +kernel⟩
theorem mv_X12_ride : bk_mv yX12_ride := ⟨bk_in9 (List.mem_of_getElem? (i := 49) rfl) rfl, bk_in9 (List.mem_of_getElem? (i := 50) rfl) rfl⟩
theorem lk_RL_224 : bk_lk RL 224 yX12_best := Or.inl (bk_in9 (List.mem_of_getElem? (i := 56) rfl) rfl)
theorem mc_X12_best : bk_mc yX12_best cX12_best 10 (some FieldType.int) 5 := ⟨bk_in9 (List.mem_of_getElem? (i := 59) rfl) rfl, bk_in1 (List.mem_of_getElem? (i := 14) rfl) rfl, by decide, by decide, by decide +kernel⟩
theorem mv_X12_best : bk_mv yX12_best := ⟨bk_in9 (List.mem_of_getElem? (i := 57) rfl) rfl, bk_in9 (List.mem_of_getElem? (i := 58) rfl) rfl⟩
theorem lk_RL_227 : bk_lk RL 227 yX12_dark := Or.inl (bk_in9 (List.mem_of_getElem? (i := 64) rfl) rfl)
theorem mc_X12_dark : bk_mc yX12_dark cX12_dark 2 (some FieldType.int) 1 := ⟨bk_in9 (List.mem_of_getElem? (i := 67) rfl) rfl, bk_in1 (List.mem_of_getElem? (i := 14) rfl) rfl, by decide, by decide, by decide +kernel⟩
theorem mv_X12_dark : bk_mv yX12_dark := ⟨bk_in9 (List.mem_of_getElem? (i := 65) rfl) rfl, bk_in9 (List.mem_of_getElem? (i := 66) rfl) rfl⟩
theorem lk_RL_230 : bk_lk RL 230 yX12_mean := Or.inl (bk_in9 (List.mem_of_getElem? (i := 72) rfl) rfl)
theorem mc_X12_mean : bk_mc yX12_mean cX12_mean 6 (some FieldType.int) 1 := ⟨bk_in9 (List.mem_of_getElem? (i := 75) rfl) rfl, bk_in1 (List.mem_of_getElem? (i := 14) rfl) rfl, by decide, by decide, by decide +kernel⟩
theorem mv_X12_mean : bk_mv yX12_mean := ⟨bk_in9 (List.mem_of_getElem? (i := 73) rfl) rfl, bk_in9 (List.mem_of_getElem? (i := 74) rfl) rfl⟩
theorem lk_RL_233 : bk_lk RL 233 yX12_tacks := Or.inl (bk_in9 (List.mem_of_getElem? (i := 76) rfl) rfl)
theorem mc_X12_tacks : bk_mc yX12_tacks cX12_tacks 6 (some FieldType.int) 1 := ⟨bk_in9 (List.mem_of_getElem? (i := 79) rfl) rfl, bk_in1 (List.mem_of_getElem? (i := 14) rfl) rfl, by decide, by decide, by decide +kernel⟩
theorem mv_X12_tacks : bk_mv yX12_tacks := ⟨bk_in9 (List.mem_of_getElem? (i := 77) rfl) rfl, bk_in9 (List.mem_of_getElem? (i := 78) rfl) rfl⟩
theorem lk_RL_236 : bk_lk RL 236 yX12_cell := Or.inl (bk_in9 (List.mem_of_getElem? (i := 88) rfl) rfl)
theorem mc_X12_cell : bk_mc yX12_cell cX12_cell 2 (some FieldType.int) 1 := ⟨bk_in9 (List.mem_of_getElem? (i := 91) rfl) rfl, bk_in1 (List.mem_of_getElem? (i := 14) rfl) rfl, by decide, by decide, by decide +kernel⟩
theorem mv_X12_cell : bk_mv yX12_cell := ⟨bk_in9 (List.mem_of_getElem? (i := 89) rfl) rfl, bk_in9 (List.mem_of_getElem? (i := 90) rfl) rfl⟩
theorem lk_RL_237 : bk_lk RL 237 yX11_thorn := Or.inl (bk_in3 (List.mem_of_getElem? (i := 52) rfl) rfl)
theorem mc_X11_thorn : bk_mc yX11_thorn cX11_thorn 5 (some FieldType.int) 1 := ⟨bk_in3 (List.mem_of_getElem? (i := 55) rfl) rfl, bk_in1 (List.mem_of_getElem? (i := 1) rfl) rfl, by decide, by decide, by decide +kernel⟩
theorem mv_X11_thorn : bk_mv yX11_thorn := ⟨bk_in3 (List.mem_of_getElem? (i := 53) rfl) rfl, bk_in3 (List.mem_of_getElem? (i := 54) rfl) rfl⟩
theorem lk_RL_240 : bk_lk RL 240 yX12_thorn := Or.inl (bk_in8 (List.mem_of_getElem? (i := 144) rfl) rfl)
theorem mc_X12_thorn : bk_mc yX12_thorn cX12_thorn 3 (some FieldType.int) 1 := ⟨bk_in8 (List.mem_of_getElem? (i := 147) rfl) rfl, bk_in1 (List.mem_of_getElem? (i := 14) rfl) rfl, by decide, by decide, by decide +kernel⟩
theorem mv_X12_thorn : bk_mv yX12_thorn := ⟨bk_in8 (List.mem_of_getElem? (i := 145) rfl) rfl, bk_in8 (List.mem_of_getElem? (i := 146) rfl) rfl⟩
theorem lk_RL_241 : bk_lk RL 241 yX11_quarter := Or.inl (bk_in3 (List.mem_of_getElem? (i := 68) rfl) rfl)
theorem mc_X11_quarter : bk_mc yX11_quarter cX11_quarter 7 (some FieldType.int) 0 := ⟨bk_in3 (List.mem_of_getElem? (i := 71) rfl) rfl, bk_in1 (List.mem_of_getElem? (i := 1) rfl) rfl, by decide, by decide, by decide +kernel⟩
theorem mv_X11_quarter : bk_mv yX11_quarter := ⟨bk_in3 (List.mem_of_getElem? (i := 69) rfl) rfl, bk_in3 (List.mem_of_getElem? (i := 70) rfl) rfl⟩
theorem lk_RL_244 : bk_lk RL 244 yX12_quarter := Or.inl (bk_in8 (List.mem_of_getElem? (i := 173) rfl) rfl)
theorem mc_X12_quarter : bk_mc yX12_quarter cX12_quarter 8 (some FieldType.int) 0 := ⟨bk_in8 (List.mem_of_getElem? (i := 176) rfl) rfl, bk_in1 (List.mem_of_getElem? (i := 14) rfl) rfl, by decide, by decide, by decide +kernel⟩
theorem mv_X12_quarter : bk_mv yX12_quarter := ⟨bk_in8 (List.mem_of_getElem? (i := 174) rfl) rfl, bk_in8 (List.mem_of_getElem? (i := 175) rfl) rfl⟩
theorem lk_RL_248 : bk_lk RL 248 yX12_sweep := Or.inl (bk_in8 (List.mem_of_getElem? (i := 224) rfl) rfl)
theorem mc_X12_sweep : bk_mc yX12_sweep cX12_sweep 7 (some FieldType.int) 4 := ⟨bk_in8 (List.mem_of_getElem? (i := 227) rfl) rfl, bk_in1 (List.mem_of_getElem? (i := 14) rfl) rfl, by decide, by decide, by decide +kernel⟩
theorem mv_X12_sweep : bk_mv yX12_sweep := ⟨bk_in8 (List.mem_of_getElem? (i := 225) rfl) rfl, bk_in8 (List.mem_of_getElem? (i := 226) rfl) rfl⟩
theorem lk_RL_252 : bk_lk RL 252 yX12_seeks := Or.inl (bk_in8 (List.mem_of_getElem? (i := 220) rfl) rfl)
theorem mc_X12_seeks : bk_mc yX12_seeks cX12_seeks 9 (some FieldType.int) 4 := ⟨bk_in8 (List.mem_of_getElem? (i := 223) rfl) rfl, bk_in1 (List.mem_of_getElem? (i := 14) rfl) rfl, by decide, by decide, by decide +kernel⟩
theorem mv_X12_seeks : bk_mv yX12_seeks := ⟨bk_in8 (List.mem_of_getElem? (i := 221) rfl) rfl, bk_in8 (List.mem_of_getElem? (i := 222) rfl) rfl⟩
theorem lk_RL_255 : bk_lk RL 255 yX12_enough := Or.inl (bk_in8 (List.mem_of_getElem? (i := 198) rfl) rfl)
theorem mc_X12_enough : bk_mc yX12_enough cX12_enough 5 (some FieldType.int) 1 := ⟨bk_in8 (List.mem_of_getElem? (i := 201) rfl) rfl, bk_in1 (List.mem_of_getElem? (i := 14) rfl) rfl, by decide, by decide, by decide +kernel⟩
theorem mv_X12_enough : bk_mv yX12_enough := ⟨bk_in8 (List.mem_of_getElem? (i := 199) rfl) rfl, bk_in8 (List.mem_of_getElem? (i := 200) rfl) rfl⟩
theorem lk_RL_258 : bk_lk RL 258 yX12_ofInch := Or.inl (bk_in8 (List.mem_of_getElem? (i := 165) rfl) rfl)
theorem mc_X12_ofInch : bk_mc yX12_ofInch cX12_ofInch 2 (some FieldType.int) 1 := ⟨bk_in8 (List.mem_of_getElem? (i := 168) rfl) rfl, bk_in1 (List.mem_of_getElem? (i := 14) rfl) rfl, by decide, by decide, by decide +kernel⟩
theorem mv_X12_ofInch : bk_mv yX12_ofInch := ⟨bk_in8 (List.mem_of_getElem? (i := 166) rfl) rfl, bk_in8 (List.mem_of_getElem? (i := 167) rfl) rfl⟩
theorem lk_RL_261 : bk_lk RL 261 yX12_ofSide := Or.inl (bk_in8 (List.mem_of_getElem? (i := 169) rfl) rfl)
theorem mc_X12_ofSide : bk_mc yX12_ofSide cX12_ofSide 5 (some FieldType.int) 1 := ⟨bk_in8 (List.mem_of_getElem? (i := 172) rfl) rfl, bk_in1 (List.mem_of_getElem? (i := 14) rfl) rfl, by decide, by decide, by decide +kernel⟩
theorem mv_X12_ofSide : bk_mv yX12_ofSide := ⟨bk_in8 (List.mem_of_getElem? (i := 170) rfl) rfl, bk_in8 (List.mem_of_getElem? (i := 171) rfl) rfl⟩
theorem lk_RL_265 : bk_lk RL 265 yX12_flatIf := Or.inl (bk_in8 (List.mem_of_getElem? (i := 111) rfl) rfl)
theorem mc_X12_flatIf : bk_mc yX12_flatIf cX12_flatIf 3 (some FieldType.int) 2 := ⟨bk_in8 (List.mem_of_getElem? (i := 114) rfl) rfl, bk_in1 (List.mem_of_getElem? (i := 14) rfl) rfl, by decide, by decide, by decide +kernel⟩
theorem mv_X12_flatIf : bk_mv yX12_flatIf := ⟨bk_in8 (List.mem_of_getElem? (i := 112) rfl) rfl, bk_in8 (List.mem_of_getElem? (i := 113) rfl) rfl⟩
theorem lk_RL_268 : bk_lk RL 268 yX12_which := Or.inl (bk_in8 (List.mem_of_getElem? (i := 115) rfl) rfl)
theorem mc_X12_which : bk_mc yX12_which cX12_which 7 (some FieldType.int) 3 := ⟨bk_in8 (List.mem_of_getElem? (i := 118) rfl) rfl, bk_in1 (List.mem_of_getElem? (i := 14) rfl) rfl, by decide, by decide, by decide +kernel⟩
theorem mv_X12_which : bk_mv yX12_which := ⟨bk_in8 (List.mem_of_getElem? (i := 116) rfl) rfl, bk_in8 (List.mem_of_getElem? (i := 117) rfl) rfl⟩
theorem lk_RL_271 : bk_lk RL 271 yX12_rides := Or.inl (bk_in9 (List.mem_of_getElem? (i := 60) rfl) rfl)
theorem mc_X12_rides : bk_mc yX12_rides cX12_rides 7 (some FieldType.int) 1 := ⟨bk_in9 (List.mem_of_getElem? (i := 63) rfl) rfl, bk_in1 (List.mem_of_getElem? (i := 14) rfl) rfl, by decide, by decide, by decide +kernel⟩
theorem mv_X12_rides : bk_mv yX12_rides := ⟨bk_in9 (List.mem_of_getElem? (i := 61) rfl) rfl, bk_in9 (List.mem_of_getElem? (i := 62) rfl) rfl⟩
theorem lk_RL_272 : bk_lk RL 272 yX11_image := Or.inl (bk_in3 (List.mem_of_getElem? (i := 79) rfl) rfl)
theorem mc_X11_image : bk_mc yX11_image cX11_image 1 (none : Option FieldType) 0 := ⟨bk_in3 (List.mem_of_getElem? (i := 82) rfl) rfl, bk_in1 (List.mem_of_getElem? (i := 1) rfl) rfl, by decide, by decide, by decide +kernel⟩
theorem mv_X11_image : bk_mv yX11_image := ⟨bk_in3 (List.mem_of_getElem? (i := 80) rfl) rfl, bk_in3 (List.mem_of_getElem? (i := 81) rfl) rfl⟩
theorem lk_RL_275 : bk_lk RL 275 yX12_image := Or.inl (bk_in9 (List.mem_of_getElem? (i := 92) rfl) rfl)
theorem mc_X12_image : bk_mc yX12_image cX12_image 1 (none : Option FieldType) 0 := ⟨bk_in9 (List.mem_of_getElem? (i := 95) rfl) rfl, bk_in1 (List.mem_of_getElem? (i := 14) rfl) rfl, by decide, by decide, by decide +kernel⟩
theorem mv_X12_image : bk_mv yX12_image := ⟨bk_in9 (List.mem_of_getElem? (i := 93) rfl) rfl, bk_in9 (List.mem_of_getElem? (i := 94) rfl) rfl⟩
theorem lk_RL_276 : bk_lk RL 276 yX11_restore := Or.inl (bk_in3 (List.mem_of_getElem? (i := 83) rfl) rfl)
theorem mc_X11_restore : bk_mc yX11_restore cX11_restore 1 (some FieldType.boolean) 0 := ⟨bk_in3 (List.mem_of_getElem? (i := 86) rfl) rfl, bk_in1 (List.mem_of_getElem? (i := 1) rfl) rfl, by decide, by decide, by decide +kernel⟩
theorem mv_X11_restore : bk_mv yX11_restore := ⟨bk_in3 (List.mem_of_getElem? (i := 84) rfl) rfl, bk_in3 (List.mem_of_getElem? (i := 85) rfl) rfl⟩
theorem lk_RL_280 : bk_lk RL 280 yX12_restore := Or.inl (bk_in9 (List.mem_of_getElem? (i := 99) rfl) rfl)
theorem mc_X12_restore : bk_mc yX12_restore cX12_restore 1 (some FieldType.boolean) 0 := ⟨bk_in9 (List.mem_of_getElem? (i := 102) rfl) rfl, bk_in1 (List.mem_of_getElem? (i := 14) rfl) rfl, by decide, by decide, by decide +kernel⟩
theorem mv_X12_restore : bk_mv yX12_restore := ⟨bk_in9 (List.mem_of_getElem? (i := 100) rfl) rfl, bk_in9 (List.mem_of_getElem? (i := 101) rfl) rfl⟩
theorem cl_RL_8 : Cond.classLink RL 8 RX11 ∈ bk_GW := bk_in1 (List.mem_of_getElem? (i := 26) rfl) rfl
theorem ib_RX11 : Cond.instantiable RX11 15 ∈ bk_GW := bk_in1 (List.mem_of_getElem? (i := 27) rfl) rfl
theorem in_RX11 : Cond.initialized RX11 ∈ bk_GW := bk_in1 (List.mem_of_getElem? (i := 1) rfl) rfl
theorem mc_X11_init : bk_mc yX11_init cX11_init 1 (none : Option FieldType) 0 := ⟨bk_in1 (List.mem_of_getElem? (i := 30) rfl) rfl, bk_in1 (List.mem_of_getElem? (i := 1) rfl) rfl, by decide, by decide, by decide +kernel⟩
theorem im_X11_init : Cond.instanceMethod yX11_init ∈ bk_GW := bk_in1 (List.mem_of_getElem? (i := 29) rfl) rfl
theorem lk_RL_116 : bk_lk RL 116 yX11_init := Or.inl (bk_in1 (List.mem_of_getElem? (i := 28) rfl) rfl)
theorem cl_RL_117 : Cond.classLink RL 117 RX12 ∈ bk_GW := bk_in6 (List.mem_of_getElem? (i := 96) rfl) rfl
theorem ib_RX12 : Cond.instantiable RX12 85 ∈ bk_GW := bk_in6 (List.mem_of_getElem? (i := 97) rfl) rfl
theorem in_RX12 : Cond.initialized RX12 ∈ bk_GW := bk_in1 (List.mem_of_getElem? (i := 14) rfl) rfl
theorem mc_X12_init : bk_mc yX12_init cX12_init 1 (none : Option FieldType) 0 := ⟨bk_in6 (List.mem_of_getElem? (i := 100) rfl) rfl, bk_in1 (List.mem_of_getElem? (i := 14) rfl) rfl, by decide, by decide, by decide +kernel⟩
theorem im_X12_init : Cond.instanceMethod yX12_init ∈ bk_GW := bk_in6 (List.mem_of_getElem? (i := 99) rfl) rfl
theorem lk_RL_119 : bk_lk RL 119 yX12_init := Or.inl (bk_in6 (List.mem_of_getElem? (i := 98) rfl) rfl)
