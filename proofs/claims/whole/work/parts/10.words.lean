theorem ok_11 : bk_ok 11 RX12 TX12 85 tyX12 := ⟨rfl, bk_inL _ [1399, 1401, 1403, 1405, 1407, 1409, 1411, 1413, 1415, 1417, 1419, 1421, 1423, 1425, 1427, 1429, 1431, 1433, 1435, 1437, 1439, 1441, 1443, 1445, 1447, 1449, 1451, 1453, 1455, 1457, 1459, 1461, 1463, 1465, 1467, 1469, 1471, 1473, 1475, 1477, 1479, 1481, 1483, 1485, 1487, 1489, 1491, 1493, 1495, 1497, 1499, 1501, 1503, 1505, 1507, 1509, 1511, 1513, 1515, 1517, 1519, 1521, 1523, 1525, 1527, 1529, 1531, 1533, 1535, 1537, 1539, 1541, 1543, 1545, 1547, 1549, 1551, 1553, 1555, 1557, 1559, 1561, 1563, 1565, 1567] (by decide +kernel) (by decide +kernel), tyX12_ok, nmX12, by decide +kernel⟩
theorem fl_RX12_127 : bk_fl RX12 127 11 0 := ⟨_, _, _, _, ok_11, by decide, Or.inl (bk_in6 (List.mem_of_getElem? (i := 114) rfl) rfl)⟩
theorem fp_RX12_127 : bk_fp RX12 127 11 0 .int false := ⟨_, _, _, _, ok_11, by decide, rfl, bk_in6 (List.mem_of_getElem? (i := 114) rfl) rfl, Or.inl rfl⟩
theorem fl_RX12_368 : bk_fl RX12 368 11 60 := ⟨_, _, _, _, ok_11, by decide, Or.inl (bk_in6 (List.mem_of_getElem? (i := 174) rfl) rfl)⟩
theorem fl_RX12_37 : bk_fl RX12 37 11 14 := ⟨_, _, _, _, ok_11, by decide, Or.inl (bk_in6 (List.mem_of_getElem? (i := 128) rfl) rfl)⟩
theorem fl_RX12_329 : bk_fl RX12 329 11 9 := ⟨_, _, _, _, ok_11, by decide, Or.inl (bk_in6 (List.mem_of_getElem? (i := 123) rfl) rfl)⟩
theorem lk_RX12_390 : bk_lk RX12 390 yX12_isLeaking := Or.inl (bk_in8 (List.mem_of_getElem? (i := 64) rfl) rfl)
theorem mc_X12_isLeaking : bk_mc yX12_isLeaking cX12_isLeaking 3 (some FieldType.boolean) 2 := ⟨bk_in8 (List.mem_of_getElem? (i := 67) rfl) rfl, bk_in1 (List.mem_of_getElem? (i := 14) rfl) rfl, by decide, by decide, by decide +kernel⟩
theorem mv_X12_isLeaking : bk_mv yX12_isLeaking := ⟨bk_in8 (List.mem_of_getElem? (i := 66) rfl) rfl, bk_inP5 (List.mem_of_getElem? (i := 15) rfl) rfl⟩
theorem fl_RX12_97 : bk_fl RX12 97 11 66 := ⟨_, _, _, _, ok_11, by decide, Or.inl (bk_in6 (List.mem_of_getElem? (i := 180) rfl) rfl)⟩
theorem fl_RX12_94 : bk_fl RX12 94 11 65 := ⟨_, _, _, _, ok_11, by decide, Or.inl (bk_in6 (List.mem_of_getElem? (i := 179) rfl) rfl)⟩
theorem fl_RX12_50 : bk_fl RX12 50 11 18 := ⟨_, _, _, _, ok_11, by decide, Or.inl (bk_in6 (List.mem_of_getElem? (i := 132) rfl) rfl)⟩
theorem lk_RX12_379 : bk_lk RX12 379 yX12_works := Or.inl (bk_in8 (List.mem_of_getElem? (i := 84) rfl) rfl)
theorem mc_X12_works : bk_mc yX12_works cX12_works 3 (some FieldType.int) 3 := ⟨bk_in8 (List.mem_of_getElem? (i := 86) rfl) rfl, bk_in1 (List.mem_of_getElem? (i := 14) rfl) rfl, by decide, by decide, by decide +kernel⟩
theorem st_X12_works : Cond.static yX12_works ∈ bk_GW := bk_in8 (List.mem_of_getElem? (i := 85) rfl) rfl
theorem fl_RX12_31 : bk_fl RX12 31 11 12 := ⟨_, _, _, _, ok_11, by decide, Or.inl (bk_in6 (List.mem_of_getElem? (i := 126) rfl) rfl)⟩
theorem lk_RX12_387 : bk_lk RX12 387 yX12_reckons := Or.inl (bk_in8 (List.mem_of_getElem? (i := 80) rfl) rfl)
theorem mc_X12_reckons : bk_mc yX12_reckons cX12_reckons 5 (some FieldType.int) 1 := ⟨bk_in8 (List.mem_of_getElem? (i := 83) rfl) rfl, bk_in1 (List.mem_of_getElem? (i := 14) rfl) rfl, by decide, by decide, by decide +kernel⟩
theorem mv_X12_reckons : bk_mv yX12_reckons := ⟨bk_in8 (List.mem_of_getElem? (i := 82) rfl) rfl, bk_inP6 (List.mem_of_getElem? (i := 2) rfl) rfl⟩
theorem kc_RX12_383 : Cond.constant RX12 383 50000 ∈ bk_GW := bk_in8 (List.mem_of_getElem? (i := 76) rfl) rfl
theorem lk_RX12_384 : bk_lk RX12 384 yX12_kept := Or.inl (bk_in8 (List.mem_of_getElem? (i := 77) rfl) rfl)
theorem mc_X12_kept : bk_mc yX12_kept cX12_kept 2 (some FieldType.int) 2 := ⟨bk_in8 (List.mem_of_getElem? (i := 79) rfl) rfl, bk_in1 (List.mem_of_getElem? (i := 14) rfl) rfl, by decide, by decide, by decide +kernel⟩
theorem st_X12_kept : Cond.static yX12_kept ∈ bk_GW := bk_in8 (List.mem_of_getElem? (i := 78) rfl) rfl
theorem lk_RX12_394 : bk_lk RX12 394 yX12_leakOf := Or.inl (bk_in8 (List.mem_of_getElem? (i := 72) rfl) rfl)
theorem mc_X12_leakOf : bk_mc yX12_leakOf cX12_leakOf 6 (some FieldType.int) 4 := ⟨bk_in8 (List.mem_of_getElem? (i := 75) rfl) rfl, bk_in1 (List.mem_of_getElem? (i := 14) rfl) rfl, by decide, by decide, by decide +kernel⟩
theorem mv_X12_leakOf : bk_mv yX12_leakOf := ⟨bk_in8 (List.mem_of_getElem? (i := 74) rfl) rfl, bk_inP6 (List.mem_of_getElem? (i := 1) rfl) rfl⟩
theorem fl_RX12_355 : bk_fl RX12 355 11 59 := ⟨_, _, _, _, ok_11, by decide, Or.inl (bk_in6 (List.mem_of_getElem? (i := 173) rfl) rfl)⟩
theorem lk_RX12_402 : bk_lk RX12 402 yX12_goneBy := Or.inl (bk_in8 (List.mem_of_getElem? (i := 68) rfl) rfl)
theorem mc_X12_goneBy : bk_mc yX12_goneBy cX12_goneBy 7 (some FieldType.int) 4 := ⟨bk_in8 (List.mem_of_getElem? (i := 71) rfl) rfl, bk_in1 (List.mem_of_getElem? (i := 14) rfl) rfl, by decide, by decide, by decide +kernel⟩
theorem mv_X12_goneBy : bk_mv yX12_goneBy := ⟨bk_in8 (List.mem_of_getElem? (i := 70) rfl) rfl, bk_inP6 (List.mem_of_getElem? (i := 0) rfl) rfl⟩
theorem fl_RX12_22 : bk_fl RX12 22 11 5 := ⟨_, _, _, _, ok_11, by decide, Or.inl (bk_in6 (List.mem_of_getElem? (i := 119) rfl) rfl)⟩
theorem lk_RX12_348 : bk_lk RX12 348 yX12_within := Or.inl (bk_in8 (List.mem_of_getElem? (i := 37) rfl) rfl)
theorem mc_X12_within : bk_mc yX12_within cX12_within 3 (some FieldType.boolean) 3 := ⟨bk_in8 (List.mem_of_getElem? (i := 39) rfl) rfl, bk_in1 (List.mem_of_getElem? (i := 14) rfl) rfl, by decide, by decide, by decide +kernel⟩
theorem st_X12_within : Cond.static yX12_within ∈ bk_GW := bk_in8 (List.mem_of_getElem? (i := 38) rfl) rfl
theorem lk_RX12_316 : bk_lk RX12 316 yX12_right := Or.inl (bk_in7 (List.mem_of_getElem? (i := 146) rfl) rfl)
theorem mc_X12_right : bk_mc yX12_right cX12_right 3 (some FieldType.boolean) 2 := ⟨bk_in7 (List.mem_of_getElem? (i := 149) rfl) rfl, bk_in1 (List.mem_of_getElem? (i := 14) rfl) rfl, by decide, by decide, by decide +kernel⟩
theorem mv_X12_right : bk_mv yX12_right := ⟨bk_in7 (List.mem_of_getElem? (i := 148) rfl) rfl, bk_inP4 (List.mem_of_getElem? (i := 2) rfl) rfl⟩
theorem lk_RX12_398 : bk_lk RX12 398 yX12_leakers := Or.inl (bk_in8 (List.mem_of_getElem? (i := 60) rfl) rfl)
theorem mc_X12_leakers : bk_mc yX12_leakers cX12_leakers 4 (some FieldType.int) 1 := ⟨bk_in8 (List.mem_of_getElem? (i := 63) rfl) rfl, bk_in1 (List.mem_of_getElem? (i := 14) rfl) rfl, by decide, by decide, by decide +kernel⟩
theorem mv_X12_leakers : bk_mv yX12_leakers := ⟨bk_in8 (List.mem_of_getElem? (i := 62) rfl) rfl, bk_inP5 (List.mem_of_getElem? (i := 14) rfl) rfl⟩
theorem fp_RX12_255 : bk_fp RX12 255 11 32 .int false := ⟨_, _, _, _, ok_11, by decide, rfl, bk_in6 (List.mem_of_getElem? (i := 146) rfl) rfl, Or.inl rfl⟩
theorem fp_RX12_277 : bk_fp RX12 277 11 33 .int false := ⟨_, _, _, _, ok_11, by decide, rfl, bk_in6 (List.mem_of_getElem? (i := 147) rfl) rfl, Or.inl rfl⟩
theorem fp_RX12_280 : bk_fp RX12 280 11 34 .int false := ⟨_, _, _, _, ok_11, by decide, rfl, bk_in6 (List.mem_of_getElem? (i := 148) rfl) rfl, Or.inl rfl⟩
theorem fp_RX12_283 : bk_fp RX12 283 11 35 .int false := ⟨_, _, _, _, ok_11, by decide, rfl, bk_in6 (List.mem_of_getElem? (i := 149) rfl) rfl, Or.inl rfl⟩
theorem fp_RX12_286 : bk_fp RX12 286 11 36 .int false := ⟨_, _, _, _, ok_11, by decide, rfl, bk_in6 (List.mem_of_getElem? (i := 150) rfl) rfl, Or.inl rfl⟩
theorem fp_RX12_289 : bk_fp RX12 289 11 37 .int false := ⟨_, _, _, _, ok_11, by decide, rfl, bk_in6 (List.mem_of_getElem? (i := 151) rfl) rfl, Or.inl rfl⟩
theorem fp_RX12_292 : bk_fp RX12 292 11 38 .int false := ⟨_, _, _, _, ok_11, by decide, rfl, bk_in6 (List.mem_of_getElem? (i := 152) rfl) rfl, Or.inl rfl⟩
theorem fp_RX12_295 : bk_fp RX12 295 11 39 .int false := ⟨_, _, _, _, ok_11, by decide, rfl, bk_in6 (List.mem_of_getElem? (i := 153) rfl) rfl, Or.inl rfl⟩
theorem fp_RX12_252 : bk_fp RX12 252 11 40 .int false := ⟨_, _, _, _, ok_11, by decide, rfl, bk_in6 (List.mem_of_getElem? (i := 154) rfl) rfl, Or.inl rfl⟩
theorem fp_RX12_301 : bk_fp RX12 301 11 41 .int false := ⟨_, _, _, _, ok_11, by decide, rfl, bk_in6 (List.mem_of_getElem? (i := 155) rfl) rfl, Or.inl rfl⟩
theorem fp_RX12_268 : bk_fp RX12 268 11 42 .int false := ⟨_, _, _, _, ok_11, by decide, rfl, bk_in6 (List.mem_of_getElem? (i := 156) rfl) rfl, Or.inl rfl⟩
theorem fp_RX12_310 : bk_fp RX12 310 11 43 .int false := ⟨_, _, _, _, ok_11, by decide, rfl, bk_in6 (List.mem_of_getElem? (i := 157) rfl) rfl, Or.inl rfl⟩
theorem fp_RX12_307 : bk_fp RX12 307 11 44 .int false := ⟨_, _, _, _, ok_11, by decide, rfl, bk_in6 (List.mem_of_getElem? (i := 158) rfl) rfl, Or.inl rfl⟩
theorem fp_RX12_249 : bk_fp RX12 249 11 49 .long false := ⟨_, _, _, _, ok_11, by decide, rfl, bk_in6 (List.mem_of_getElem? (i := 163) rfl) rfl, Or.inl rfl⟩
theorem fp_RX12_265 : bk_fp RX12 265 11 45 .int false := ⟨_, _, _, _, ok_11, by decide, rfl, bk_in6 (List.mem_of_getElem? (i := 159) rfl) rfl, Or.inl rfl⟩
theorem fl_RX12_65 : bk_fl RX12 65 11 52 := ⟨_, _, _, _, ok_11, by decide, Or.inl (bk_in6 (List.mem_of_getElem? (i := 166) rfl) rfl)⟩
theorem fp_RX12_200 : bk_fp RX12 200 11 46 .int false := ⟨_, _, _, _, ok_11, by decide, rfl, bk_in6 (List.mem_of_getElem? (i := 160) rfl) rfl, Or.inl rfl⟩
theorem fl_RX12_137 : bk_fl RX12 137 11 24 := ⟨_, _, _, _, ok_11, by decide, Or.inl (bk_in6 (List.mem_of_getElem? (i := 138) rfl) rfl)⟩
theorem fl_RX12_53 : bk_fl RX12 53 11 19 := ⟨_, _, _, _, ok_11, by decide, Or.inl (bk_in6 (List.mem_of_getElem? (i := 133) rfl) rfl)⟩
theorem fl_RX12_140 : bk_fl RX12 140 11 25 := ⟨_, _, _, _, ok_11, by decide, Or.inl (bk_in6 (List.mem_of_getElem? (i := 139) rfl) rfl)⟩
theorem fl_RX12_147 : bk_fl RX12 147 11 27 := ⟨_, _, _, _, ok_11, by decide, Or.inl (bk_in6 (List.mem_of_getElem? (i := 141) rfl) rfl)⟩
theorem fp_RX12_170 : bk_fp RX12 170 11 28 .int false := ⟨_, _, _, _, ok_11, by decide, rfl, bk_in6 (List.mem_of_getElem? (i := 142) rfl) rfl, Or.inl rfl⟩
theorem fp_RX12_140 : bk_fp RX12 140 11 25 .int false := ⟨_, _, _, _, ok_11, by decide, rfl, bk_in6 (List.mem_of_getElem? (i := 139) rfl) rfl, Or.inl rfl⟩
theorem lk_RX12_143 : bk_lk RX12 143 yX12_byteAt := Or.inl (bk_in7 (List.mem_of_getElem? (i := 158) rfl) rfl)
theorem mc_X12_byteAt : bk_mc yX12_byteAt cX12_byteAt 2 (some FieldType.int) 1 := ⟨bk_in7 (List.mem_of_getElem? (i := 161) rfl) rfl, bk_in1 (List.mem_of_getElem? (i := 14) rfl) rfl, by decide, by decide, by decide +kernel⟩
theorem mv_X12_byteAt : bk_mv yX12_byteAt := ⟨bk_in7 (List.mem_of_getElem? (i := 160) rfl) rfl, bk_inP4 (List.mem_of_getElem? (i := 5) rfl) rfl⟩
theorem lk_RX12_163 : bk_lk RX12 163 yX12_isLetter := Or.inl (bk_in7 (List.mem_of_getElem? (i := 162) rfl) rfl)
theorem mc_X12_isLetter : bk_mc yX12_isLetter cX12_isLetter 1 (some FieldType.boolean) 1 := ⟨bk_in7 (List.mem_of_getElem? (i := 164) rfl) rfl, bk_in1 (List.mem_of_getElem? (i := 14) rfl) rfl, by decide, by decide, by decide +kernel⟩
theorem st_X12_isLetter : Cond.static yX12_isLetter ∈ bk_GW := bk_in7 (List.mem_of_getElem? (i := 163) rfl) rfl
theorem fp_RX12_160 : bk_fp RX12 160 11 26 .int false := ⟨_, _, _, _, ok_11, by decide, rfl, bk_in6 (List.mem_of_getElem? (i := 140) rfl) rfl, Or.inl rfl⟩
theorem fl_RX12_150 : bk_fl RX12 150 11 31 := ⟨_, _, _, _, ok_11, by decide, Or.inl (bk_in6 (List.mem_of_getElem? (i := 145) rfl) rfl)⟩
theorem fp_RX12_150 : bk_fp RX12 150 11 31 .long false := ⟨_, _, _, _, ok_11, by decide, rfl, bk_in6 (List.mem_of_getElem? (i := 145) rfl) rfl, Or.inl rfl⟩
theorem lk_RX12_167 : bk_lk RX12 167 yX12_isDigit := Or.inl (bk_in7 (List.mem_of_getElem? (i := 165) rfl) rfl)
theorem mc_X12_isDigit : bk_mc yX12_isDigit cX12_isDigit 1 (some FieldType.boolean) 1 := ⟨bk_in7 (List.mem_of_getElem? (i := 167) rfl) rfl, bk_in1 (List.mem_of_getElem? (i := 14) rfl) rfl, by decide, by decide, by decide +kernel⟩
theorem st_X12_isDigit : Cond.static yX12_isDigit ∈ bk_GW := bk_in7 (List.mem_of_getElem? (i := 166) rfl) rfl
theorem fl_RX12_154 : bk_fl RX12 154 11 29 := ⟨_, _, _, _, ok_11, by decide, Or.inl (bk_in6 (List.mem_of_getElem? (i := 143) rfl) rfl)⟩
theorem fp_RX12_154 : bk_fp RX12 154 11 29 .int false := ⟨_, _, _, _, ok_11, by decide, rfl, bk_in6 (List.mem_of_getElem? (i := 143) rfl) rfl, Or.inl rfl⟩
theorem fp_RX12_147 : bk_fp RX12 147 11 27 .int false := ⟨_, _, _, _, ok_11, by decide, rfl, bk_in6 (List.mem_of_getElem? (i := 141) rfl) rfl, Or.inl rfl⟩
theorem fp_RX12_157 : bk_fp RX12 157 11 30 .int false := ⟨_, _, _, _, ok_11, by decide, rfl, bk_in6 (List.mem_of_getElem? (i := 144) rfl) rfl, Or.inl rfl⟩
theorem kl_RX12_173 : Cond.constantLong RX12 173 96 ∈ bk_GW := bk_in7 (List.mem_of_getElem? (i := 178) rfl) rfl
theorem lk_RX12_175 : bk_lk RX12 175 yX12_spelled := Or.inl (bk_in7 (List.mem_of_getElem? (i := 175) rfl) rfl)
theorem mc_X12_spelled : bk_mc yX12_spelled cX12_spelled 10 (some FieldType.long) 8 := ⟨bk_in7 (List.mem_of_getElem? (i := 177) rfl) rfl, bk_in1 (List.mem_of_getElem? (i := 14) rfl) rfl, by decide, by decide, by decide +kernel⟩
theorem st_X12_spelled : Cond.static yX12_spelled ∈ bk_GW := bk_in7 (List.mem_of_getElem? (i := 176) rfl) rfl
theorem lk_RX12_179 : bk_lk RX12 179 yX12_letters := Or.inl (bk_in7 (List.mem_of_getElem? (i := 172) rfl) rfl)
theorem mc_X12_letters : bk_mc yX12_letters cX12_letters 1 (some FieldType.long) 1 := ⟨bk_in7 (List.mem_of_getElem? (i := 174) rfl) rfl, bk_in1 (List.mem_of_getElem? (i := 14) rfl) rfl, by decide, by decide, by decide +kernel⟩
theorem st_X12_letters : Cond.static yX12_letters ∈ bk_GW := bk_in7 (List.mem_of_getElem? (i := 173) rfl) rfl
theorem fl_RX12_160 : bk_fl RX12 160 11 26 := ⟨_, _, _, _, ok_11, by decide, Or.inl (bk_in6 (List.mem_of_getElem? (i := 140) rfl) rfl)⟩
theorem fl_RX12_170 : bk_fl RX12 170 11 28 := ⟨_, _, _, _, ok_11, by decide, Or.inl (bk_in6 (List.mem_of_getElem? (i := 142) rfl) rfl)⟩
theorem fl_RX12_183 : bk_fl RX12 183 11 21 := ⟨_, _, _, _, ok_11, by decide, Or.inl (bk_in6 (List.mem_of_getElem? (i := 135) rfl) rfl)⟩
theorem fp_RX12_183 : bk_fp RX12 183 11 21 .int false := ⟨_, _, _, _, ok_11, by decide, rfl, bk_in6 (List.mem_of_getElem? (i := 135) rfl) rfl, Or.inl rfl⟩
theorem fp_RX12_56 : bk_fp RX12 56 11 22 .int false := ⟨_, _, _, _, ok_11, by decide, rfl, bk_in6 (List.mem_of_getElem? (i := 136) rfl) rfl, Or.inl rfl⟩
theorem lk_RX12_186 : bk_lk RX12 186 yX12_isGood := Or.inl (bk_in7 (List.mem_of_getElem? (i := 183) rfl) rfl)
theorem mc_X12_isGood : bk_mc yX12_isGood cX12_isGood 1 (some FieldType.boolean) 0 := ⟨bk_in7 (List.mem_of_getElem? (i := 186) rfl) rfl, bk_in1 (List.mem_of_getElem? (i := 14) rfl) rfl, by decide, by decide, by decide +kernel⟩
theorem mv_X12_isGood : bk_mv yX12_isGood := ⟨bk_in7 (List.mem_of_getElem? (i := 185) rfl) rfl, bk_inP4 (List.mem_of_getElem? (i := 8) rfl) rfl⟩
theorem lk_RX12_190 : bk_lk RX12 190 yX12_goes := Or.inl (bk_in7 (List.mem_of_getElem? (i := 154) rfl) rfl)
theorem mc_X12_goes : bk_mc yX12_goes cX12_goes 2 (none : Option FieldType) 0 := ⟨bk_in7 (List.mem_of_getElem? (i := 157) rfl) rfl, bk_in1 (List.mem_of_getElem? (i := 14) rfl) rfl, by decide, by decide, by decide +kernel⟩
theorem mv_X12_goes : bk_mv yX12_goes := ⟨bk_in7 (List.mem_of_getElem? (i := 156) rfl) rfl, bk_inP4 (List.mem_of_getElem? (i := 4) rfl) rfl⟩
theorem lk_RX12_193 : bk_lk RX12 193 yX12_wrong := Or.inl (bk_in7 (List.mem_of_getElem? (i := 187) rfl) rfl)
theorem mc_X12_wrong : bk_mc yX12_wrong cX12_wrong 2 (none : Option FieldType) 1 := ⟨bk_in7 (List.mem_of_getElem? (i := 190) rfl) rfl, bk_in1 (List.mem_of_getElem? (i := 14) rfl) rfl, by decide, by decide, by decide +kernel⟩
theorem mv_X12_wrong : bk_mv yX12_wrong := ⟨bk_in7 (List.mem_of_getElem? (i := 189) rfl) rfl, bk_inP4 (List.mem_of_getElem? (i := 9) rfl) rfl⟩
theorem fl_RX12_157 : bk_fl RX12 157 11 30 := ⟨_, _, _, _, ok_11, by decide, Or.inl (bk_in6 (List.mem_of_getElem? (i := 144) rfl) rfl)⟩
theorem fl_RX12_252 : bk_fl RX12 252 11 40 := ⟨_, _, _, _, ok_11, by decide, Or.inl (bk_in6 (List.mem_of_getElem? (i := 154) rfl) rfl)⟩
theorem lk_RX12_262 : bk_lk RX12 262 yX12_need := Or.inl (bk_in7 (List.mem_of_getElem? (i := 195) rfl) rfl)
theorem mc_X12_need : bk_mc yX12_need cX12_need 2 (none : Option FieldType) 1 := ⟨bk_in7 (List.mem_of_getElem? (i := 198) rfl) rfl, bk_in1 (List.mem_of_getElem? (i := 14) rfl) rfl, by decide, by decide, by decide +kernel⟩
theorem mv_X12_need : bk_mv yX12_need := ⟨bk_in7 (List.mem_of_getElem? (i := 197) rfl) rfl, bk_inP4 (List.mem_of_getElem? (i := 11) rfl) rfl⟩
theorem fl_RX12_62 : bk_fl RX12 62 11 51 := ⟨_, _, _, _, ok_11, by decide, Or.inl (bk_in6 (List.mem_of_getElem? (i := 165) rfl) rfl)⟩
theorem lk_RX12_258 : bk_lk RX12 258 yX12_number := Or.inl (bk_in7 (List.mem_of_getElem? (i := 179) rfl) rfl)
theorem mc_X12_number : bk_mc yX12_number cX12_number 4 (some FieldType.int) 2 := ⟨bk_in7 (List.mem_of_getElem? (i := 182) rfl) rfl, bk_in1 (List.mem_of_getElem? (i := 14) rfl) rfl, by decide, by decide, by decide +kernel⟩
theorem mv_X12_number : bk_mv yX12_number := ⟨bk_in7 (List.mem_of_getElem? (i := 181) rfl) rfl, bk_inP4 (List.mem_of_getElem? (i := 7) rfl) rfl⟩
theorem lk_RX12_214 : bk_lk RX12 214 yX12_knownWord := Or.inl (bk_in7 (List.mem_of_getElem? (i := 168) rfl) rfl)
theorem mc_X12_knownWord : bk_mc yX12_knownWord cX12_knownWord 2 (some FieldType.int) 0 := ⟨bk_in7 (List.mem_of_getElem? (i := 171) rfl) rfl, bk_in1 (List.mem_of_getElem? (i := 14) rfl) rfl, by decide, by decide, by decide +kernel⟩
theorem mv_X12_knownWord : bk_mv yX12_knownWord := ⟨bk_in7 (List.mem_of_getElem? (i := 170) rfl) rfl, bk_inP4 (List.mem_of_getElem? (i := 6) rfl) rfl⟩
theorem fl_RX12_255 : bk_fl RX12 255 11 32 := ⟨_, _, _, _, ok_11, by decide, Or.inl (bk_in6 (List.mem_of_getElem? (i := 146) rfl) rfl)⟩
theorem fl_RX12_249 : bk_fl RX12 249 11 49 := ⟨_, _, _, _, ok_11, by decide, Or.inl (bk_in6 (List.mem_of_getElem? (i := 163) rfl) rfl)⟩
theorem fl_RX12_265 : bk_fl RX12 265 11 45 := ⟨_, _, _, _, ok_11, by decide, Or.inl (bk_in6 (List.mem_of_getElem? (i := 159) rfl) rfl)⟩
theorem fl_RX12_268 : bk_fl RX12 268 11 42 := ⟨_, _, _, _, ok_11, by decide, Or.inl (bk_in6 (List.mem_of_getElem? (i := 156) rfl) rfl)⟩
theorem fl_RX12_71 : bk_fl RX12 71 11 54 := ⟨_, _, _, _, ok_11, by decide, Or.inl (bk_in6 (List.mem_of_getElem? (i := 168) rfl) rfl)⟩
theorem fl_RX12_221 : bk_fl RX12 221 11 48 := ⟨_, _, _, _, ok_11, by decide, Or.inl (bk_in6 (List.mem_of_getElem? (i := 162) rfl) rfl)⟩
theorem lk_RX12_224 : bk_lk RX12 224 yX12_isSign := Or.inl (bk_in7 (List.mem_of_getElem? (i := 191) rfl) rfl)
theorem mc_X12_isSign : bk_mc yX12_isSign cX12_isSign 2 (some FieldType.boolean) 1 := ⟨bk_in7 (List.mem_of_getElem? (i := 194) rfl) rfl, bk_in1 (List.mem_of_getElem? (i := 14) rfl) rfl, by decide, by decide, by decide +kernel⟩
theorem mv_X12_isSign : bk_mv yX12_isSign := ⟨bk_in7 (List.mem_of_getElem? (i := 193) rfl) rfl, bk_inP4 (List.mem_of_getElem? (i := 10) rfl) rfl⟩
theorem fp_RX12_221 : bk_fp RX12 221 11 48 .int false := ⟨_, _, _, _, ok_11, by decide, rfl, bk_in6 (List.mem_of_getElem? (i := 162) rfl) rfl, Or.inl rfl⟩
theorem fl_RX12_80 : bk_fl RX12 80 11 57 := ⟨_, _, _, _, ok_11, by decide, Or.inl (bk_in6 (List.mem_of_getElem? (i := 171) rfl) rfl)⟩
theorem fl_RX12_77 : bk_fl RX12 77 11 56 := ⟨_, _, _, _, ok_11, by decide, Or.inl (bk_in6 (List.mem_of_getElem? (i := 170) rfl) rfl)⟩
theorem fl_RX12_203 : bk_fl RX12 203 11 47 := ⟨_, _, _, _, ok_11, by decide, Or.inl (bk_in6 (List.mem_of_getElem? (i := 161) rfl) rfl)⟩
theorem fp_RX12_203 : bk_fp RX12 203 11 47 .int false := ⟨_, _, _, _, ok_11, by decide, rfl, bk_in6 (List.mem_of_getElem? (i := 161) rfl) rfl, Or.inl rfl⟩
theorem fl_RX12_74 : bk_fl RX12 74 11 55 := ⟨_, _, _, _, ok_11, by decide, Or.inl (bk_in6 (List.mem_of_getElem? (i := 169) rfl) rfl)⟩
theorem fl_RX12_200 : bk_fl RX12 200 11 46 := ⟨_, _, _, _, ok_11, by decide, Or.inl (bk_in6 (List.mem_of_getElem? (i := 160) rfl) rfl)⟩
theorem fl_RX12_196 : bk_fl RX12 196 11 50 := ⟨_, _, _, _, ok_11, by decide, Or.inl (bk_in6 (List.mem_of_getElem? (i := 164) rfl) rfl)⟩
theorem lk_RX12_211 : bk_lk RX12 211 yX12_puts := Or.inl (bk_in7 (List.mem_of_getElem? (i := 239) rfl) rfl)
theorem mc_X12_puts : bk_mc yX12_puts cX12_puts 2 (none : Option FieldType) 1 := ⟨bk_in8 (List.mem_of_getElem? (i := 2) rfl) rfl, bk_in1 (List.mem_of_getElem? (i := 14) rfl) rfl, by decide, by decide, by decide +kernel⟩
theorem mv_X12_puts : bk_mv yX12_puts := ⟨bk_in8 (List.mem_of_getElem? (i := 1) rfl) rfl, bk_inP5 (List.mem_of_getElem? (i := 6) rfl) rfl⟩
theorem lk_RX12_218 : bk_lk RX12 218 yX12_isValue := Or.inl (bk_in8 (List.mem_of_getElem? (i := 3) rfl) rfl)
theorem mc_X12_isValue : bk_mc yX12_isValue cX12_isValue 2 (some FieldType.boolean) 1 := ⟨bk_in8 (List.mem_of_getElem? (i := 6) rfl) rfl, bk_in1 (List.mem_of_getElem? (i := 14) rfl) rfl, by decide, by decide, by decide +kernel⟩
theorem mv_X12_isValue : bk_mv yX12_isValue := ⟨bk_in8 (List.mem_of_getElem? (i := 5) rfl) rfl, bk_inP5 (List.mem_of_getElem? (i := 7) rfl) rfl⟩
theorem lk_RX12_233 : bk_lk RX12 233 yX12_part := Or.inl (bk_in7 (List.mem_of_getElem? (i := 235) rfl) rfl)
theorem mc_X12_part : bk_mc yX12_part cX12_part 2 (none : Option FieldType) 0 := ⟨bk_in7 (List.mem_of_getElem? (i := 238) rfl) rfl, bk_in1 (List.mem_of_getElem? (i := 14) rfl) rfl, by decide, by decide, by decide +kernel⟩
theorem mv_X12_part : bk_mv yX12_part := ⟨bk_in7 (List.mem_of_getElem? (i := 237) rfl) rfl, bk_inP5 (List.mem_of_getElem? (i := 5) rfl) rfl⟩
theorem lk_RX12_227 : bk_lk RX12 227 yX12_waitsFor := Or.inl (bk_in7 (List.mem_of_getElem? (i := 231) rfl) rfl)
theorem mc_X12_waitsFor : bk_mc yX12_waitsFor cX12_waitsFor 2 (none : Option FieldType) 1 := ⟨bk_in7 (List.mem_of_getElem? (i := 234) rfl) rfl, bk_in1 (List.mem_of_getElem? (i := 14) rfl) rfl, by decide, by decide, by decide +kernel⟩
theorem mv_X12_waitsFor : bk_mv yX12_waitsFor := ⟨bk_in7 (List.mem_of_getElem? (i := 233) rfl) rfl, bk_inP5 (List.mem_of_getElem? (i := 4) rfl) rfl⟩
theorem lk_RX12_230 : bk_lk RX12 230 yX12_deeper := Or.inl (bk_in7 (List.mem_of_getElem? (i := 223) rfl) rfl)
theorem mc_X12_deeper : bk_mc yX12_deeper cX12_deeper 1 (none : Option FieldType) 0 := ⟨bk_in7 (List.mem_of_getElem? (i := 226) rfl) rfl, bk_in1 (List.mem_of_getElem? (i := 14) rfl) rfl, by decide, by decide, by decide +kernel⟩
theorem mv_X12_deeper : bk_mv yX12_deeper := ⟨bk_in7 (List.mem_of_getElem? (i := 225) rfl) rfl, bk_inP5 (List.mem_of_getElem? (i := 2) rfl) rfl⟩
theorem lk_RX12_206 : bk_lk RX12 206 yX12_isOpen := Or.inl (bk_in8 (List.mem_of_getElem? (i := 11) rfl) rfl)
theorem mc_X12_isOpen : bk_mc yX12_isOpen cX12_isOpen 1 (some FieldType.boolean) 1 := ⟨bk_in8 (List.mem_of_getElem? (i := 13) rfl) rfl, bk_in1 (List.mem_of_getElem? (i := 14) rfl) rfl, by decide, by decide, by decide +kernel⟩
theorem st_X12_isOpen : Cond.static yX12_isOpen ∈ bk_GW := bk_in8 (List.mem_of_getElem? (i := 12) rfl) rfl
theorem lk_RX12_209 : bk_lk RX12 209 yX12_strength := Or.inl (bk_in8 (List.mem_of_getElem? (i := 14) rfl) rfl)
theorem mc_X12_strength : bk_mc yX12_strength cX12_strength 1 (some FieldType.int) 1 := ⟨bk_in8 (List.mem_of_getElem? (i := 16) rfl) rfl, bk_in1 (List.mem_of_getElem? (i := 14) rfl) rfl, by decide, by decide, by decide +kernel⟩
theorem st_X12_strength : Cond.static yX12_strength ∈ bk_GW := bk_in8 (List.mem_of_getElem? (i := 15) rfl) rfl
theorem lk_RX12_236 : bk_lk RX12 236 yX12_drops := Or.inl (bk_in8 (List.mem_of_getElem? (i := 7) rfl) rfl)
theorem mc_X12_drops : bk_mc yX12_drops cX12_drops 2 (none : Option FieldType) 1 := ⟨bk_in8 (List.mem_of_getElem? (i := 10) rfl) rfl, bk_in1 (List.mem_of_getElem? (i := 14) rfl) rfl, by decide, by decide, by decide +kernel⟩
theorem mv_X12_drops : bk_mv yX12_drops := ⟨bk_in8 (List.mem_of_getElem? (i := 9) rfl) rfl, bk_inP5 (List.mem_of_getElem? (i := 8) rfl) rfl⟩
theorem lk_RX12_239 : bk_lk RX12 239 yX12_operand := Or.inl (bk_in7 (List.mem_of_getElem? (i := 227) rfl) rfl)
theorem mc_X12_operand : bk_mc yX12_operand cX12_operand 5 (none : Option FieldType) 1 := ⟨bk_in7 (List.mem_of_getElem? (i := 230) rfl) rfl, bk_in1 (List.mem_of_getElem? (i := 14) rfl) rfl, by decide, by decide, by decide +kernel⟩
theorem mv_X12_operand : bk_mv yX12_operand := ⟨bk_in7 (List.mem_of_getElem? (i := 229) rfl) rfl, bk_inP5 (List.mem_of_getElem? (i := 3) rfl) rfl⟩
theorem lk_RX12_243 : bk_lk RX12 243 yX12_isOpened := Or.inl (bk_in8 (List.mem_of_getElem? (i := 17) rfl) rfl)
theorem mc_X12_isOpened : bk_mc yX12_isOpened cX12_isOpened 2 (some FieldType.boolean) 0 := ⟨bk_in8 (List.mem_of_getElem? (i := 20) rfl) rfl, bk_in1 (List.mem_of_getElem? (i := 14) rfl) rfl, by decide, by decide, by decide +kernel⟩
theorem mv_X12_isOpened : bk_mv yX12_isOpened := ⟨bk_in8 (List.mem_of_getElem? (i := 19) rfl) rfl, bk_inP5 (List.mem_of_getElem? (i := 9) rfl) rfl⟩
theorem lk_RX12_246 : bk_lk RX12 246 yX12_closes := Or.inl (bk_in8 (List.mem_of_getElem? (i := 21) rfl) rfl)
theorem mc_X12_closes : bk_mc yX12_closes cX12_closes 1 (none : Option FieldType) 0 := ⟨bk_in8 (List.mem_of_getElem? (i := 24) rfl) rfl, bk_in1 (List.mem_of_getElem? (i := 14) rfl) rfl, by decide, by decide, by decide +kernel⟩
theorem mv_X12_closes : bk_mv yX12_closes := ⟨bk_in8 (List.mem_of_getElem? (i := 23) rfl) rfl, bk_inP5 (List.mem_of_getElem? (i := 10) rfl) rfl⟩
theorem fl_RX12_68 : bk_fl RX12 68 11 53 := ⟨_, _, _, _, ok_11, by decide, Or.inl (bk_in6 (List.mem_of_getElem? (i := 167) rfl) rfl)⟩
theorem fl_RX12_301 : bk_fl RX12 301 11 41 := ⟨_, _, _, _, ok_11, by decide, Or.inl (bk_in6 (List.mem_of_getElem? (i := 155) rfl) rfl)⟩
theorem lk_RX12_313 : bk_lk RX12 313 yX12_expression := Or.inl (bk_in7 (List.mem_of_getElem? (i := 219) rfl) rfl)
theorem mc_X12_expression : bk_mc yX12_expression cX12_expression 3 (none : Option FieldType) 0 := ⟨bk_in7 (List.mem_of_getElem? (i := 222) rfl) rfl, bk_in1 (List.mem_of_getElem? (i := 14) rfl) rfl, by decide, by decide, by decide +kernel⟩
theorem mv_X12_expression : bk_mv yX12_expression := ⟨bk_in7 (List.mem_of_getElem? (i := 221) rfl) rfl, bk_inP5 (List.mem_of_getElem? (i := 1) rfl) rfl⟩
theorem fp_RX12_196 : bk_fp RX12 196 11 50 .boolean false := ⟨_, _, _, _, ok_11, by decide, rfl, bk_in6 (List.mem_of_getElem? (i := 164) rfl) rfl, Or.inl rfl⟩
theorem lk_RX12_274 : bk_lk RX12 274 yX12_begins := Or.inl (bk_in7 (List.mem_of_getElem? (i := 207) rfl) rfl)
theorem mc_X12_begins : bk_mc yX12_begins cX12_begins 2 (some FieldType.boolean) 1 := ⟨bk_in7 (List.mem_of_getElem? (i := 210) rfl) rfl, bk_in1 (List.mem_of_getElem? (i := 14) rfl) rfl, by decide, by decide, by decide +kernel⟩
theorem mv_X12_begins : bk_mv yX12_begins := ⟨bk_in7 (List.mem_of_getElem? (i := 209) rfl) rfl, bk_inP4 (List.mem_of_getElem? (i := 14) rfl) rfl⟩
theorem lk_RX12_304 : bk_lk RX12 304 yX12_readsRider := Or.inl (bk_in7 (List.mem_of_getElem? (i := 215) rfl) rfl)
theorem mc_X12_readsRider : bk_mc yX12_readsRider cX12_readsRider 3 (none : Option FieldType) 0 := ⟨bk_in7 (List.mem_of_getElem? (i := 218) rfl) rfl, bk_in1 (List.mem_of_getElem? (i := 14) rfl) rfl, by decide, by decide, by decide +kernel⟩
theorem mv_X12_readsRider : bk_mv yX12_readsRider := ⟨bk_in7 (List.mem_of_getElem? (i := 217) rfl) rfl, bk_inP5 (List.mem_of_getElem? (i := 0) rfl) rfl⟩
theorem lk_RX12_298 : bk_lk RX12 298 yX12_readsCause := Or.inl (bk_in7 (List.mem_of_getElem? (i := 211) rfl) rfl)
theorem mc_X12_readsCause : bk_mc yX12_readsCause cX12_readsCause 4 (none : Option FieldType) 0 := ⟨bk_in7 (List.mem_of_getElem? (i := 214) rfl) rfl, bk_in1 (List.mem_of_getElem? (i := 14) rfl) rfl, by decide, by decide, by decide +kernel⟩
theorem mv_X12_readsCause : bk_mv yX12_readsCause := ⟨bk_in7 (List.mem_of_getElem? (i := 213) rfl) rfl, bk_inP4 (List.mem_of_getElem? (i := 15) rfl) rfl⟩
theorem lk_RX12_271 : bk_lk RX12 271 yX12_readsHole := Or.inl (bk_in7 (List.mem_of_getElem? (i := 203) rfl) rfl)
theorem mc_X12_readsHole : bk_mc yX12_readsHole cX12_readsHole 5 (none : Option FieldType) 0 := ⟨bk_in7 (List.mem_of_getElem? (i := 206) rfl) rfl, bk_in1 (List.mem_of_getElem? (i := 14) rfl) rfl, by decide, by decide, by decide +kernel⟩
theorem mv_X12_readsHole : bk_mv yX12_readsHole := ⟨bk_in7 (List.mem_of_getElem? (i := 205) rfl) rfl, bk_inP4 (List.mem_of_getElem? (i := 13) rfl) rfl⟩
theorem fl_RX12_7 : bk_fl RX12 7 11 1 := ⟨_, _, _, _, ok_11, by decide, Or.inl (bk_in6 (List.mem_of_getElem? (i := 115) rfl) rfl)⟩
theorem fl_RX12_84 : bk_fl RX12 84 11 62 := ⟨_, _, _, _, ok_11, by decide, Or.inl (bk_in6 (List.mem_of_getElem? (i := 176) rfl) rfl)⟩
theorem lk_RX12_371 : bk_lk RX12 371 yX12_mayMake := Or.inl (bk_in6 (List.mem_of_getElem? (i := 106) rfl) rfl)
theorem mc_X12_mayMake : bk_mc yX12_mayMake cX12_mayMake 3 (some FieldType.boolean) 2 := ⟨bk_in6 (List.mem_of_getElem? (i := 108) rfl) rfl, bk_in1 (List.mem_of_getElem? (i := 14) rfl) rfl, by decide, by decide, by decide +kernel⟩
theorem st_X12_mayMake : Cond.static yX12_mayMake ∈ bk_GW := bk_in6 (List.mem_of_getElem? (i := 107) rfl) rfl
theorem fl_RX12_41 : bk_fl RX12 41 11 15 := ⟨_, _, _, _, ok_11, by decide, Or.inl (bk_in6 (List.mem_of_getElem? (i := 129) rfl) rfl)⟩
theorem kl_RX12_374 : Cond.constantLong RX12 374 1000000000 ∈ bk_GW := bk_in6 (List.mem_of_getElem? (i := 109) rfl) rfl
theorem lk_RX12_376 : bk_lk RX12 376 yX12_placesOf := Or.inl (bk_in6 (List.mem_of_getElem? (i := 110) rfl) rfl)
theorem mc_X12_placesOf : bk_mc yX12_placesOf cX12_placesOf 2 (some FieldType.int) 1 := ⟨bk_in6 (List.mem_of_getElem? (i := 113) rfl) rfl, bk_in1 (List.mem_of_getElem? (i := 14) rfl) rfl, by decide, by decide, by decide +kernel⟩
theorem mv_X12_placesOf : bk_mv yX12_placesOf := ⟨bk_in6 (List.mem_of_getElem? (i := 112) rfl) rfl, bk_inP4 (List.mem_of_getElem? (i := 0) rfl) rfl⟩
theorem fp_RX12_352 : bk_fp RX12 352 11 58 .int false := ⟨_, _, _, _, ok_11, by decide, rfl, bk_in6 (List.mem_of_getElem? (i := 172) rfl) rfl, Or.inl rfl⟩
theorem fp_RX12_355 : bk_fp RX12 355 11 59 .int false := ⟨_, _, _, _, ok_11, by decide, rfl, bk_in6 (List.mem_of_getElem? (i := 173) rfl) rfl, Or.inl rfl⟩
theorem fp_RX12_368 : bk_fp RX12 368 11 60 .int false := ⟨_, _, _, _, ok_11, by decide, rfl, bk_in6 (List.mem_of_getElem? (i := 174) rfl) rfl, Or.inl rfl⟩
theorem fp_RX12_358 : bk_fp RX12 358 11 61 .int false := ⟨_, _, _, _, ok_11, by decide, rfl, bk_in6 (List.mem_of_getElem? (i := 175) rfl) rfl, Or.inl rfl⟩
theorem fp_RX12_7 : bk_fp RX12 7 11 1 .int false := ⟨_, _, _, _, ok_11, by decide, rfl, bk_in6 (List.mem_of_getElem? (i := 115) rfl) rfl, Or.inl rfl⟩
theorem fl_RX12_277 : bk_fl RX12 277 11 33 := ⟨_, _, _, _, ok_11, by decide, Or.inl (bk_in6 (List.mem_of_getElem? (i := 147) rfl) rfl)⟩
theorem fp_RX12_13 : bk_fp RX12 13 11 2 .int false := ⟨_, _, _, _, ok_11, by decide, rfl, bk_in6 (List.mem_of_getElem? (i := 116) rfl) rfl, Or.inl rfl⟩
theorem fl_RX12_280 : bk_fl RX12 280 11 34 := ⟨_, _, _, _, ok_11, by decide, Or.inl (bk_in6 (List.mem_of_getElem? (i := 148) rfl) rfl)⟩
theorem fp_RX12_16 : bk_fp RX12 16 11 3 .int false := ⟨_, _, _, _, ok_11, by decide, rfl, bk_in6 (List.mem_of_getElem? (i := 117) rfl) rfl, Or.inl rfl⟩
theorem fl_RX12_283 : bk_fl RX12 283 11 35 := ⟨_, _, _, _, ok_11, by decide, Or.inl (bk_in6 (List.mem_of_getElem? (i := 149) rfl) rfl)⟩
theorem fp_RX12_19 : bk_fp RX12 19 11 4 .int false := ⟨_, _, _, _, ok_11, by decide, rfl, bk_in6 (List.mem_of_getElem? (i := 118) rfl) rfl, Or.inl rfl⟩
theorem fl_RX12_286 : bk_fl RX12 286 11 36 := ⟨_, _, _, _, ok_11, by decide, Or.inl (bk_in6 (List.mem_of_getElem? (i := 150) rfl) rfl)⟩
theorem fp_RX12_22 : bk_fp RX12 22 11 5 .int false := ⟨_, _, _, _, ok_11, by decide, rfl, bk_in6 (List.mem_of_getElem? (i := 119) rfl) rfl, Or.inl rfl⟩
theorem fl_RX12_289 : bk_fl RX12 289 11 37 := ⟨_, _, _, _, ok_11, by decide, Or.inl (bk_in6 (List.mem_of_getElem? (i := 151) rfl) rfl)⟩
theorem fp_RX12_326 : bk_fp RX12 326 11 6 .int false := ⟨_, _, _, _, ok_11, by decide, rfl, bk_in6 (List.mem_of_getElem? (i := 120) rfl) rfl, Or.inl rfl⟩
theorem fl_RX12_292 : bk_fl RX12 292 11 38 := ⟨_, _, _, _, ok_11, by decide, Or.inl (bk_in6 (List.mem_of_getElem? (i := 152) rfl) rfl)⟩
theorem fp_RX12_25 : bk_fp RX12 25 11 7 .int false := ⟨_, _, _, _, ok_11, by decide, rfl, bk_in6 (List.mem_of_getElem? (i := 121) rfl) rfl, Or.inl rfl⟩
theorem fl_RX12_295 : bk_fl RX12 295 11 39 := ⟨_, _, _, _, ok_11, by decide, Or.inl (bk_in6 (List.mem_of_getElem? (i := 153) rfl) rfl)⟩
theorem fp_RX12_28 : bk_fp RX12 28 11 8 .int false := ⟨_, _, _, _, ok_11, by decide, rfl, bk_in6 (List.mem_of_getElem? (i := 122) rfl) rfl, Or.inl rfl⟩
theorem fp_RX12_329 : bk_fp RX12 329 11 9 .int false := ⟨_, _, _, _, ok_11, by decide, rfl, bk_in6 (List.mem_of_getElem? (i := 123) rfl) rfl, Or.inl rfl⟩
theorem fp_RX12_332 : bk_fp RX12 332 11 10 .int false := ⟨_, _, _, _, ok_11, by decide, rfl, bk_in6 (List.mem_of_getElem? (i := 124) rfl) rfl, Or.inl rfl⟩
theorem fp_RX12_335 : bk_fp RX12 335 11 11 .int false := ⟨_, _, _, _, ok_11, by decide, rfl, bk_in6 (List.mem_of_getElem? (i := 125) rfl) rfl, Or.inl rfl⟩
theorem fl_RX12_310 : bk_fl RX12 310 11 43 := ⟨_, _, _, _, ok_11, by decide, Or.inl (bk_in6 (List.mem_of_getElem? (i := 157) rfl) rfl)⟩
theorem fp_RX12_31 : bk_fp RX12 31 11 12 .int false := ⟨_, _, _, _, ok_11, by decide, rfl, bk_in6 (List.mem_of_getElem? (i := 126) rfl) rfl, Or.inl rfl⟩
theorem fl_RX12_307 : bk_fl RX12 307 11 44 := ⟨_, _, _, _, ok_11, by decide, Or.inl (bk_in6 (List.mem_of_getElem? (i := 158) rfl) rfl)⟩
theorem fp_RX12_34 : bk_fp RX12 34 11 13 .int false := ⟨_, _, _, _, ok_11, by decide, rfl, bk_in6 (List.mem_of_getElem? (i := 127) rfl) rfl, Or.inl rfl⟩
theorem lk_RX12_338 : bk_lk RX12 338 yX12_copies := Or.inl (bk_in8 (List.mem_of_getElem? (i := 25) rfl) rfl)
theorem mc_X12_copies : bk_mc yX12_copies cX12_copies 4 (none : Option FieldType) 2 := ⟨bk_in8 (List.mem_of_getElem? (i := 28) rfl) rfl, bk_in1 (List.mem_of_getElem? (i := 14) rfl) rfl, by decide, by decide, by decide +kernel⟩
theorem mv_X12_copies : bk_mv yX12_copies := ⟨bk_in8 (List.mem_of_getElem? (i := 27) rfl) rfl, bk_inP5 (List.mem_of_getElem? (i := 11) rfl) rfl⟩
theorem fl_RX12_44 : bk_fl RX12 44 11 16 := ⟨_, _, _, _, ok_11, by decide, Or.inl (bk_in6 (List.mem_of_getElem? (i := 130) rfl) rfl)⟩
theorem fl_RX12_47 : bk_fl RX12 47 11 17 := ⟨_, _, _, _, ok_11, by decide, Or.inl (bk_in6 (List.mem_of_getElem? (i := 131) rfl) rfl)⟩
theorem lk_RX12_124 : bk_lk RX12 124 yX12_anew := Or.inl (bk_in6 (List.mem_of_getElem? (i := 102) rfl) rfl)
theorem mc_X12_anew : bk_mc yX12_anew cX12_anew 3 (none : Option FieldType) 0 := ⟨bk_in6 (List.mem_of_getElem? (i := 105) rfl) rfl, bk_in1 (List.mem_of_getElem? (i := 14) rfl) rfl, by decide, by decide, by decide +kernel⟩
theorem mv_X12_anew : bk_mv yX12_anew := ⟨bk_in6 (List.mem_of_getElem? (i := 104) rfl) rfl, bk_inP3 (List.mem_of_getElem? (i := 15) rfl) rfl⟩
theorem fp_RX12_342 : bk_fp RX12 342 11 69 .boolean false := ⟨_, _, _, _, ok_11, by decide, rfl, bk_in6 (List.mem_of_getElem? (i := 183) rfl) rfl, Or.inl rfl⟩
theorem fp_RX12_345 : bk_fp RX12 345 11 77 .boolean false := ⟨_, _, _, _, ok_11, by decide, rfl, bk_in6 (List.mem_of_getElem? (i := 191) rfl) rfl, Or.inl rfl⟩
theorem fl_RX12_59 : bk_fl RX12 59 11 23 := ⟨_, _, _, _, ok_11, by decide, Or.inl (bk_in6 (List.mem_of_getElem? (i := 137) rfl) rfl)⟩
theorem lk_RX12_323 : bk_lk RX12 323 yX12_line0 := Or.inl (bk_in7 (List.mem_of_getElem? (i := 199) rfl) rfl)
theorem mc_X12_line0 : bk_mc yX12_line0 cX12_line0 2 (none : Option FieldType) 0 := ⟨bk_in7 (List.mem_of_getElem? (i := 202) rfl) rfl, bk_in1 (List.mem_of_getElem? (i := 14) rfl) rfl, by decide, by decide, by decide +kernel⟩
theorem mv_X12_line0 : bk_mv yX12_line0 := ⟨bk_in7 (List.mem_of_getElem? (i := 201) rfl) rfl, bk_inP4 (List.mem_of_getElem? (i := 12) rfl) rfl⟩
theorem fp_RX12_130 : bk_fp RX12 130 11 20 .int false := ⟨_, _, _, _, ok_11, by decide, rfl, bk_in6 (List.mem_of_getElem? (i := 134) rfl) rfl, Or.inl rfl⟩
theorem fp_RX12_137 : bk_fp RX12 137 11 24 .int false := ⟨_, _, _, _, ok_11, by decide, rfl, bk_in6 (List.mem_of_getElem? (i := 138) rfl) rfl, Or.inl rfl⟩
theorem lk_RX12_320 : bk_lk RX12 320 yX12_asWithout := Or.inl (bk_in7 (List.mem_of_getElem? (i := 150) rfl) rfl)
theorem mc_X12_asWithout : bk_mc yX12_asWithout cX12_asWithout 1 (none : Option FieldType) 0 := ⟨bk_in7 (List.mem_of_getElem? (i := 153) rfl) rfl, bk_in1 (List.mem_of_getElem? (i := 14) rfl) rfl, by decide, by decide, by decide +kernel⟩
theorem mv_X12_asWithout : bk_mv yX12_asWithout := ⟨bk_in7 (List.mem_of_getElem? (i := 152) rfl) rfl, bk_inP4 (List.mem_of_getElem? (i := 3) rfl) rfl⟩
theorem fl_RX12_130 : bk_fl RX12 130 11 20 := ⟨_, _, _, _, ok_11, by decide, Or.inl (bk_in6 (List.mem_of_getElem? (i := 134) rfl) rfl)⟩
theorem fl_RX12_358 : bk_fl RX12 358 11 61 := ⟨_, _, _, _, ok_11, by decide, Or.inl (bk_in6 (List.mem_of_getElem? (i := 175) rfl) rfl)⟩
theorem fl_RX12_88 : bk_fl RX12 88 11 63 := ⟨_, _, _, _, ok_11, by decide, Or.inl (bk_in6 (List.mem_of_getElem? (i := 177) rfl) rfl)⟩
theorem fl_RX12_91 : bk_fl RX12 91 11 64 := ⟨_, _, _, _, ok_11, by decide, Or.inl (bk_in6 (List.mem_of_getElem? (i := 178) rfl) rfl)⟩
theorem fl_RX12_352 : bk_fl RX12 352 11 58 := ⟨_, _, _, _, ok_11, by decide, Or.inl (bk_in6 (List.mem_of_getElem? (i := 172) rfl) rfl)⟩
theorem fl_RX12_455 : bk_fl RX12 455 11 71 := ⟨_, _, _, _, ok_11, by decide, Or.inl (bk_in6 (List.mem_of_getElem? (i := 185) rfl) rfl)⟩
theorem kc_RX12_458 : Cond.constant RX12 458 1103515245 ∈ bk_GW := bk_in8 (List.mem_of_getElem? (i := 219) rfl) rfl
theorem fp_RX12_455 : bk_fp RX12 455 11 71 .int false := ⟨_, _, _, _, ok_11, by decide, rfl, bk_in6 (List.mem_of_getElem? (i := 185) rfl) rfl, Or.inl rfl⟩
theorem fl_RX12_34 : bk_fl RX12 34 11 13 := ⟨_, _, _, _, ok_11, by decide, Or.inl (bk_in6 (List.mem_of_getElem? (i := 127) rfl) rfl)⟩
theorem lk_RX12_478 : bk_lk RX12 478 yX12_apart := Or.inl (bk_in9 (List.mem_of_getElem? (i := 11) rfl) rfl)
theorem mc_X12_apart : bk_mc yX12_apart cX12_apart 4 (some FieldType.int) 2 := ⟨bk_in9 (List.mem_of_getElem? (i := 14) rfl) rfl, bk_in1 (List.mem_of_getElem? (i := 14) rfl) rfl, by decide, by decide, by decide +kernel⟩
theorem mv_X12_apart : bk_mv yX12_apart := ⟨bk_in9 (List.mem_of_getElem? (i := 13) rfl) rfl, bk_inP7 (List.mem_of_getElem? (i := 1) rfl) rfl⟩
theorem lk_RX12_361 : bk_lk RX12 361 yX12_isHole := Or.inl (bk_in8 (List.mem_of_getElem? (i := 44) rfl) rfl)
theorem mc_X12_isHole : bk_mc yX12_isHole cX12_isHole 2 (some FieldType.boolean) 1 := ⟨bk_in8 (List.mem_of_getElem? (i := 47) rfl) rfl, bk_in1 (List.mem_of_getElem? (i := 14) rfl) rfl, by decide, by decide, by decide +kernel⟩
theorem mv_X12_isHole : bk_mv yX12_isHole := ⟨bk_in8 (List.mem_of_getElem? (i := 46) rfl) rfl, bk_inP5 (List.mem_of_getElem? (i := 12) rfl) rfl⟩
theorem lk_RX12_481 : bk_lk RX12 481 yX12_isPatch := Or.inl (bk_in9 (List.mem_of_getElem? (i := 4) rfl) rfl)
theorem mc_X12_isPatch : bk_mc yX12_isPatch cX12_isPatch 3 (some FieldType.boolean) 3 := ⟨bk_in9 (List.mem_of_getElem? (i := 6) rfl) rfl, bk_in1 (List.mem_of_getElem? (i := 14) rfl) rfl, by decide, by decide, by decide +kernel⟩
theorem st_X12_isPatch : Cond.static yX12_isPatch ∈ bk_GW := bk_in9 (List.mem_of_getElem? (i := 5) rfl) rfl
theorem lk_RX12_408 : bk_lk RX12 408 yX12_keeps := Or.inl (bk_in8 (List.mem_of_getElem? (i := 95) rfl) rfl)
theorem mc_X12_keeps : bk_mc yX12_keeps cX12_keeps 2 (none : Option FieldType) 0 := ⟨bk_in8 (List.mem_of_getElem? (i := 98) rfl) rfl, bk_in1 (List.mem_of_getElem? (i := 14) rfl) rfl, by decide, by decide, by decide +kernel⟩
theorem mv_X12_keeps : bk_mv yX12_keeps := ⟨bk_in8 (List.mem_of_getElem? (i := 97) rfl) rfl, bk_inP6 (List.mem_of_getElem? (i := 4) rfl) rfl⟩
theorem lk_RX12_462 : bk_lk RX12 462 yX12_draw := Or.inl (bk_in8 (List.mem_of_getElem? (i := 215) rfl) rfl)
theorem mc_X12_draw : bk_mc yX12_draw cX12_draw 2 (some FieldType.int) 1 := ⟨bk_in8 (List.mem_of_getElem? (i := 218) rfl) rfl, bk_in1 (List.mem_of_getElem? (i := 14) rfl) rfl, by decide, by decide, by decide +kernel⟩
theorem mv_X12_draw : bk_mv yX12_draw := ⟨bk_in8 (List.mem_of_getElem? (i := 217) rfl) rfl, bk_inP6 (List.mem_of_getElem? (i := 14) rfl) rfl⟩
theorem lk_RX12_484 : bk_lk RX12 484 yX12_holdsOf := Or.inl (bk_in9 (List.mem_of_getElem? (i := 7) rfl) rfl)
theorem mc_X12_holdsOf : bk_mc yX12_holdsOf cX12_holdsOf 7 (some FieldType.int) 4 := ⟨bk_in9 (List.mem_of_getElem? (i := 10) rfl) rfl, bk_in1 (List.mem_of_getElem? (i := 14) rfl) rfl, by decide, by decide, by decide +kernel⟩
theorem mv_X12_holdsOf : bk_mv yX12_holdsOf := ⟨bk_in9 (List.mem_of_getElem? (i := 9) rfl) rfl, bk_inP7 (List.mem_of_getElem? (i := 0) rfl) rfl⟩
theorem fl_RX12_335 : bk_fl RX12 335 11 11 := ⟨_, _, _, _, ok_11, by decide, Or.inl (bk_in6 (List.mem_of_getElem? (i := 125) rfl) rfl)⟩
theorem lk_RX12_508 : bk_lk RX12 508 yX12_isTacked := Or.inl (bk_in9 (List.mem_of_getElem? (i := 84) rfl) rfl)
theorem mc_X12_isTacked : bk_mc yX12_isTacked cX12_isTacked 7 (some FieldType.boolean) 2 := ⟨bk_in9 (List.mem_of_getElem? (i := 87) rfl) rfl, bk_in1 (List.mem_of_getElem? (i := 14) rfl) rfl, by decide, by decide, by decide +kernel⟩
theorem mv_X12_isTacked : bk_mv yX12_isTacked := ⟨bk_in9 (List.mem_of_getElem? (i := 86) rfl) rfl, bk_inP7 (List.mem_of_getElem? (i := 8) rfl) rfl⟩
theorem lk_RX12_511 : bk_lk RX12 511 yX12_hoursOf := Or.inl (bk_in9 (List.mem_of_getElem? (i := 80) rfl) rfl)
theorem mc_X12_hoursOf : bk_mc yX12_hoursOf cX12_hoursOf 4 (some FieldType.int) 1 := ⟨bk_in9 (List.mem_of_getElem? (i := 83) rfl) rfl, bk_in1 (List.mem_of_getElem? (i := 14) rfl) rfl, by decide, by decide, by decide +kernel⟩
theorem mv_X12_hoursOf : bk_mv yX12_hoursOf := ⟨bk_in9 (List.mem_of_getElem? (i := 82) rfl) rfl, bk_inP7 (List.mem_of_getElem? (i := 7) rfl) rfl⟩
theorem lk_RX12_364 : bk_lk RX12 364 yX12_isWhat := Or.inl (bk_in8 (List.mem_of_getElem? (i := 48) rfl) rfl)
theorem mc_X12_isWhat : bk_mc yX12_isWhat cX12_isWhat 3 (some FieldType.boolean) 2 := ⟨bk_in8 (List.mem_of_getElem? (i := 51) rfl) rfl, bk_in1 (List.mem_of_getElem? (i := 14) rfl) rfl, by decide, by decide, by decide +kernel⟩
theorem mv_X12_isWhat : bk_mv yX12_isWhat := ⟨bk_in8 (List.mem_of_getElem? (i := 50) rfl) rfl, bk_inP5 (List.mem_of_getElem? (i := 13) rfl) rfl⟩
theorem fl_RX12_13 : bk_fl RX12 13 11 2 := ⟨_, _, _, _, ok_11, by decide, Or.inl (bk_in6 (List.mem_of_getElem? (i := 116) rfl) rfl)⟩
theorem fl_RX12_459 : bk_fl RX12 459 11 73 := ⟨_, _, _, _, ok_11, by decide, Or.inl (bk_in6 (List.mem_of_getElem? (i := 187) rfl) rfl)⟩
theorem lk_RX12_415 : bk_lk RX12 415 yX12_isLooked := Or.inl (bk_in8 (List.mem_of_getElem? (i := 131) rfl) rfl)
theorem mc_X12_isLooked : bk_mc yX12_isLooked cX12_isLooked 4 (some FieldType.boolean) 2 := ⟨bk_in8 (List.mem_of_getElem? (i := 134) rfl) rfl, bk_in1 (List.mem_of_getElem? (i := 14) rfl) rfl, by decide, by decide, by decide +kernel⟩
theorem mv_X12_isLooked : bk_mv yX12_isLooked := ⟨bk_in8 (List.mem_of_getElem? (i := 133) rfl) rfl, bk_inP6 (List.mem_of_getElem? (i := 8) rfl) rfl⟩
theorem fl_RX12_16 : bk_fl RX12 16 11 3 := ⟨_, _, _, _, ok_11, by decide, Or.inl (bk_in6 (List.mem_of_getElem? (i := 117) rfl) rfl)⟩
theorem fp_RX12_459 : bk_fp RX12 459 11 73 .int false := ⟨_, _, _, _, ok_11, by decide, rfl, bk_in6 (List.mem_of_getElem? (i := 187) rfl) rfl, Or.inl rfl⟩
theorem lk_RX12_468 : bk_lk RX12 468 yX12_shows := Or.inl (bk_in8 (List.mem_of_getElem? (i := 211) rfl) rfl)
theorem mc_X12_shows : bk_mc yX12_shows cX12_shows 4 (some FieldType.boolean) 2 := ⟨bk_in8 (List.mem_of_getElem? (i := 214) rfl) rfl, bk_in1 (List.mem_of_getElem? (i := 14) rfl) rfl, by decide, by decide, by decide +kernel⟩
theorem mv_X12_shows : bk_mv yX12_shows := ⟨bk_in8 (List.mem_of_getElem? (i := 213) rfl) rfl, bk_inP6 (List.mem_of_getElem? (i := 13) rfl) rfl⟩
theorem fl_RX12_25 : bk_fl RX12 25 11 7 := ⟨_, _, _, _, ok_11, by decide, Or.inl (bk_in6 (List.mem_of_getElem? (i := 121) rfl) rfl)⟩
theorem kl_RX12_453 : Cond.constantLong RX12 453 1000 ∈ bk_GW := bk_in8 (List.mem_of_getElem? (i := 202) rfl) rfl
theorem fl_RX12_28 : bk_fl RX12 28 11 8 := ⟨_, _, _, _, ok_11, by decide, Or.inl (bk_in6 (List.mem_of_getElem? (i := 122) rfl) rfl)⟩
theorem kl_RX12_418 : Cond.constantLong RX12 418 100 ∈ bk_GW := bk_in8 (List.mem_of_getElem? (i := 135) rfl) rfl
theorem lk_RX12_475 : bk_lk RX12 475 yX12_airBy := Or.inl (bk_in8 (List.mem_of_getElem? (i := 232) rfl) rfl)
theorem mc_X12_airBy : bk_mc yX12_airBy cX12_airBy 6 (some FieldType.int) 1 := ⟨bk_in8 (List.mem_of_getElem? (i := 235) rfl) rfl, bk_in1 (List.mem_of_getElem? (i := 14) rfl) rfl, by decide, by decide, by decide +kernel⟩
theorem mv_X12_airBy : bk_mv yX12_airBy := ⟨bk_in8 (List.mem_of_getElem? (i := 234) rfl) rfl, bk_inP6 (List.mem_of_getElem? (i := 15) rfl) rfl⟩
theorem fl_RX12_499 : bk_fl RX12 499 11 75 := ⟨_, _, _, _, ok_11, by decide, Or.inl (bk_in6 (List.mem_of_getElem? (i := 189) rfl) rfl)⟩
theorem fp_RX12_499 : bk_fp RX12 499 11 75 .int false := ⟨_, _, _, _, ok_11, by decide, rfl, bk_in6 (List.mem_of_getElem? (i := 189) rfl) rfl, Or.inl rfl⟩
theorem lk_RX12_502 : bk_lk RX12 502 yX12_ridesFor := Or.inl (bk_in9 (List.mem_of_getElem? (i := 52) rfl) rfl)
theorem mc_X12_ridesFor : bk_mc yX12_ridesFor cX12_ridesFor 5 (some FieldType.int) 1 := ⟨bk_in9 (List.mem_of_getElem? (i := 55) rfl) rfl, bk_in1 (List.mem_of_getElem? (i := 14) rfl) rfl, by decide, by decide, by decide +kernel⟩
theorem mv_X12_ridesFor : bk_mv yX12_ridesFor := ⟨bk_in9 (List.mem_of_getElem? (i := 54) rfl) rfl, bk_inP7 (List.mem_of_getElem? (i := 5) rfl) rfl⟩
theorem kl_RX12_436 : Cond.constantLong RX12 436 10 ∈ bk_GW := bk_in8 (List.mem_of_getElem? (i := 150) rfl) rfl
theorem fl_RX12_56 : bk_fl RX12 56 11 22 := ⟨_, _, _, _, ok_11, by decide, Or.inl (bk_in6 (List.mem_of_getElem? (i := 136) rfl) rfl)⟩
theorem lk_RX12_488 : bk_lk RX12 488 yX12_glueOf := Or.inl (bk_in9 (List.mem_of_getElem? (i := 19) rfl) rfl)
theorem mc_X12_glueOf : bk_mc yX12_glueOf cX12_glueOf 6 (some FieldType.int) 4 := ⟨bk_in9 (List.mem_of_getElem? (i := 22) rfl) rfl, bk_in1 (List.mem_of_getElem? (i := 14) rfl) rfl, by decide, by decide, by decide +kernel⟩
theorem mv_X12_glueOf : bk_mv yX12_glueOf := ⟨bk_in9 (List.mem_of_getElem? (i := 21) rfl) rfl, bk_inP7 (List.mem_of_getElem? (i := 2) rfl) rfl⟩
theorem fl_RX12_112 : bk_fl RX12 112 11 76 := ⟨_, _, _, _, ok_11, by decide, Or.inl (bk_in6 (List.mem_of_getElem? (i := 190) rfl) rfl)⟩
theorem fl_RX12_332 : bk_fl RX12 332 11 10 := ⟨_, _, _, _, ok_11, by decide, Or.inl (bk_in6 (List.mem_of_getElem? (i := 124) rfl) rfl)⟩
theorem lk_RX12_505 : bk_lk RX12 505 yX12_orders := Or.inl (bk_in9 (List.mem_of_getElem? (i := 68) rfl) rfl)
theorem mc_X12_orders : bk_mc yX12_orders cX12_orders 3 (none : Option FieldType) 0 := ⟨bk_in9 (List.mem_of_getElem? (i := 71) rfl) rfl, bk_in1 (List.mem_of_getElem? (i := 14) rfl) rfl, by decide, by decide, by decide +kernel⟩
theorem mv_X12_orders : bk_mv yX12_orders := ⟨bk_in9 (List.mem_of_getElem? (i := 70) rfl) rfl, bk_inP7 (List.mem_of_getElem? (i := 6) rfl) rfl⟩
theorem fl_RX12_103 : bk_fl RX12 103 11 68 := ⟨_, _, _, _, ok_11, by decide, Or.inl (bk_in6 (List.mem_of_getElem? (i := 182) rfl) rfl)⟩
theorem kl_RX12_420 : Cond.constantLong RX12 420 (-1) ∈ bk_GW := bk_in8 (List.mem_of_getElem? (i := 177) rfl) rfl
theorem kl_RX12_432 : Cond.constantLong RX12 432 100000000000000 ∈ bk_GW := bk_in8 (List.mem_of_getElem? (i := 148) rfl) rfl
theorem kl_RX12_434 : Cond.constantLong RX12 434 1000000000000000 ∈ bk_GW := bk_in8 (List.mem_of_getElem? (i := 149) rfl) rfl
theorem lk_RX12_429 : bk_lk RX12 429 yX12_likeliest := Or.inl (bk_in8 (List.mem_of_getElem? (i := 136) rfl) rfl)
theorem mc_X12_likeliest : bk_mc yX12_likeliest cX12_likeliest 3 (some FieldType.int) 0 := ⟨bk_in8 (List.mem_of_getElem? (i := 139) rfl) rfl, bk_in1 (List.mem_of_getElem? (i := 14) rfl) rfl, by decide, by decide, by decide +kernel⟩
theorem mv_X12_likeliest : bk_mv yX12_likeliest := ⟨bk_in8 (List.mem_of_getElem? (i := 138) rfl) rfl, bk_inP6 (List.mem_of_getElem? (i := 9) rfl) rfl⟩
theorem fl_RX12_326 : bk_fl RX12 326 11 6 := ⟨_, _, _, _, ok_11, by decide, Or.inl (bk_in6 (List.mem_of_getElem? (i := 120) rfl) rfl)⟩
theorem lk_RX12_422 : bk_lk RX12 422 yX12_isInch := Or.inl (bk_in8 (List.mem_of_getElem? (i := 123) rfl) rfl)
theorem mc_X12_isInch : bk_mc yX12_isInch cX12_isInch 2 (some FieldType.boolean) 1 := ⟨bk_in8 (List.mem_of_getElem? (i := 126) rfl) rfl, bk_in1 (List.mem_of_getElem? (i := 14) rfl) rfl, by decide, by decide, by decide +kernel⟩
theorem mv_X12_isInch : bk_mv yX12_isInch := ⟨bk_in8 (List.mem_of_getElem? (i := 125) rfl) rfl, bk_inP6 (List.mem_of_getElem? (i := 6) rfl) rfl⟩
theorem lk_RX12_405 : bk_lk RX12 405 yX12_refuses := Or.inl (bk_in8 (List.mem_of_getElem? (i := 91) rfl) rfl)
theorem mc_X12_refuses : bk_mc yX12_refuses cX12_refuses 1 (some FieldType.int) 0 := ⟨bk_in8 (List.mem_of_getElem? (i := 94) rfl) rfl, bk_in1 (List.mem_of_getElem? (i := 14) rfl) rfl, by decide, by decide, by decide +kernel⟩
theorem mv_X12_refuses : bk_mv yX12_refuses := ⟨bk_in8 (List.mem_of_getElem? (i := 93) rfl) rfl, bk_inP6 (List.mem_of_getElem? (i := 3) rfl) rfl⟩
theorem fl_RX12_19 : bk_fl RX12 19 11 4 := ⟨_, _, _, _, ok_11, by decide, Or.inl (bk_in6 (List.mem_of_getElem? (i := 118) rfl) rfl)⟩
theorem lk_RX12_438 : bk_lk RX12 438 yX12_together := Or.inl (bk_in8 (List.mem_of_getElem? (i := 159) rfl) rfl)
theorem mc_X12_together : bk_mc yX12_together cX12_together 4 (some FieldType.long) 1 := ⟨bk_in8 (List.mem_of_getElem? (i := 161) rfl) rfl, bk_in1 (List.mem_of_getElem? (i := 14) rfl) rfl, by decide, by decide, by decide +kernel⟩
theorem st_X12_together : Cond.static yX12_together ∈ bk_GW := bk_in8 (List.mem_of_getElem? (i := 160) rfl) rfl
theorem lk_RX12_442 : bk_lk RX12 442 yX12_thousandths := Or.inl (bk_in8 (List.mem_of_getElem? (i := 162) rfl) rfl)
theorem mc_X12_thousandths : bk_mc yX12_thousandths cX12_thousandths 8 (some FieldType.int) 2 := ⟨bk_in8 (List.mem_of_getElem? (i := 164) rfl) rfl, bk_in1 (List.mem_of_getElem? (i := 14) rfl) rfl, by decide, by decide, by decide +kernel⟩
theorem st_X12_thousandths : Cond.static yX12_thousandths ∈ bk_GW := bk_in8 (List.mem_of_getElem? (i := 163) rfl) rfl
theorem fl_RX12_109 : bk_fl RX12 109 11 74 := ⟨_, _, _, _, ok_11, by decide, Or.inl (bk_in6 (List.mem_of_getElem? (i := 188) rfl) rfl)⟩
theorem kl_RX12_494 : Cond.constantLong RX12 494 1000000 ∈ bk_GW := bk_in9 (List.mem_of_getElem? (i := 47) rfl) rfl
theorem fl_RX12_100 : bk_fl RX12 100 11 67 := ⟨_, _, _, _, ok_11, by decide, Or.inl (bk_in6 (List.mem_of_getElem? (i := 181) rfl) rfl)⟩
theorem fl_RX12_465 : bk_fl RX12 465 11 72 := ⟨_, _, _, _, ok_11, by decide, Or.inl (bk_in6 (List.mem_of_getElem? (i := 186) rfl) rfl)⟩
theorem fp_RX12_465 : bk_fp RX12 465 11 72 .int false := ⟨_, _, _, _, ok_11, by decide, rfl, bk_in6 (List.mem_of_getElem? (i := 186) rfl) rfl, Or.inl rfl⟩
theorem lk_RX12_449 : bk_lk RX12 449 yX12_nextOf := Or.inl (bk_in8 (List.mem_of_getElem? (i := 186) rfl) rfl)
theorem mc_X12_nextOf : bk_mc yX12_nextOf cX12_nextOf 9 (some FieldType.int) 1 := ⟨bk_in8 (List.mem_of_getElem? (i := 189) rfl) rfl, bk_in1 (List.mem_of_getElem? (i := 14) rfl) rfl, by decide, by decide, by decide +kernel⟩
theorem mv_X12_nextOf : bk_mv yX12_nextOf := ⟨bk_in8 (List.mem_of_getElem? (i := 188) rfl) rfl, bk_inP6 (List.mem_of_getElem? (i := 11) rfl) rfl⟩
theorem lk_RX12_425 : bk_lk RX12 425 yX12_dips := Or.inl (bk_in8 (List.mem_of_getElem? (i := 127) rfl) rfl)
theorem mc_X12_dips : bk_mc yX12_dips cX12_dips 4 (none : Option FieldType) 2 := ⟨bk_in8 (List.mem_of_getElem? (i := 130) rfl) rfl, bk_in1 (List.mem_of_getElem? (i := 14) rfl) rfl, by decide, by decide, by decide +kernel⟩
theorem mv_X12_dips : bk_mv yX12_dips := ⟨bk_in8 (List.mem_of_getElem? (i := 129) rfl) rfl, bk_inP6 (List.mem_of_getElem? (i := 7) rfl) rfl⟩
theorem lk_RX12_446 : bk_lk RX12 446 yX12_copiesWeights := Or.inl (bk_in8 (List.mem_of_getElem? (i := 182) rfl) rfl)
theorem mc_X12_copiesWeights : bk_mc yX12_copiesWeights cX12_copiesWeights 2 (none : Option FieldType) 0 := ⟨bk_in8 (List.mem_of_getElem? (i := 185) rfl) rfl, bk_in1 (List.mem_of_getElem? (i := 14) rfl) rfl, by decide, by decide, by decide +kernel⟩
theorem mv_X12_copiesWeights : bk_mv yX12_copiesWeights := ⟨bk_in8 (List.mem_of_getElem? (i := 184) rfl) rfl, bk_inP6 (List.mem_of_getElem? (i := 10) rfl) rfl⟩
theorem lk_RX12_471 : bk_lk RX12 471 yX12_seeksBy := Or.inl (bk_in8 (List.mem_of_getElem? (i := 207) rfl) rfl)
theorem mc_X12_seeksBy : bk_mc yX12_seeksBy cX12_seeksBy 4 (none : Option FieldType) 2 := ⟨bk_in8 (List.mem_of_getElem? (i := 210) rfl) rfl, bk_in1 (List.mem_of_getElem? (i := 14) rfl) rfl, by decide, by decide, by decide +kernel⟩
theorem mv_X12_seeksBy : bk_mv yX12_seeksBy := ⟨bk_in8 (List.mem_of_getElem? (i := 209) rfl) rfl, bk_inP6 (List.mem_of_getElem? (i := 12) rfl) rfl⟩
theorem lk_RX12_411 : bk_lk RX12 411 yX12_flatBy := Or.inl (bk_in8 (List.mem_of_getElem? (i := 107) rfl) rfl)
theorem mc_X12_flatBy : bk_mc yX12_flatBy cX12_flatBy 5 (some FieldType.int) 2 := ⟨bk_in8 (List.mem_of_getElem? (i := 110) rfl) rfl, bk_in1 (List.mem_of_getElem? (i := 14) rfl) rfl, by decide, by decide, by decide +kernel⟩
theorem mv_X12_flatBy : bk_mv yX12_flatBy := ⟨bk_in8 (List.mem_of_getElem? (i := 109) rfl) rfl, bk_inP6 (List.mem_of_getElem? (i := 5) rfl) rfl⟩
theorem lk_RX12_496 : bk_lk RX12 496 yX12_causesOf := Or.inl (bk_in9 (List.mem_of_getElem? (i := 43) rfl) rfl)
theorem mc_X12_causesOf : bk_mc yX12_causesOf cX12_causesOf 6 (some FieldType.long) 1 := ⟨bk_in9 (List.mem_of_getElem? (i := 46) rfl) rfl, bk_in1 (List.mem_of_getElem? (i := 14) rfl) rfl, by decide, by decide, by decide +kernel⟩
theorem mv_X12_causesOf : bk_mv yX12_causesOf := ⟨bk_in9 (List.mem_of_getElem? (i := 45) rfl) rfl, bk_inP7 (List.mem_of_getElem? (i := 4) rfl) rfl⟩
theorem lk_RX12_491 : bk_lk RX12 491 yX12_feels := Or.inl (bk_in9 (List.mem_of_getElem? (i := 31) rfl) rfl)
theorem mc_X12_feels : bk_mc yX12_feels cX12_feels 4 (some FieldType.int) 1 := ⟨bk_in9 (List.mem_of_getElem? (i := 34) rfl) rfl, bk_in1 (List.mem_of_getElem? (i := 14) rfl) rfl, by decide, by decide, by decide +kernel⟩
theorem mv_X12_feels : bk_mv yX12_feels := ⟨bk_in9 (List.mem_of_getElem? (i := 33) rfl) rfl, bk_inP7 (List.mem_of_getElem? (i := 3) rfl) rfl⟩
theorem fl_RX12_345 : bk_fl RX12 345 11 77 := ⟨_, _, _, _, ok_11, by decide, Or.inl (bk_in6 (List.mem_of_getElem? (i := 191) rfl) rfl)⟩
theorem fl_RX12_514 : bk_fl RX12 514 11 78 := ⟨_, _, _, _, ok_11, by decide, Or.inl (bk_in6 (List.mem_of_getElem? (i := 192) rfl) rfl)⟩
theorem fl_RX12_517 : bk_fl RX12 517 11 79 := ⟨_, _, _, _, ok_11, by decide, Or.inl (bk_in6 (List.mem_of_getElem? (i := 193) rfl) rfl)⟩
theorem fl_RX12_520 : bk_fl RX12 520 11 80 := ⟨_, _, _, _, ok_11, by decide, Or.inl (bk_in6 (List.mem_of_getElem? (i := 194) rfl) rfl)⟩
theorem fl_RX12_523 : bk_fl RX12 523 11 81 := ⟨_, _, _, _, ok_11, by decide, Or.inl (bk_in6 (List.mem_of_getElem? (i := 195) rfl) rfl)⟩
theorem fl_RX12_115 : bk_fl RX12 115 11 82 := ⟨_, _, _, _, ok_11, by decide, Or.inl (bk_in6 (List.mem_of_getElem? (i := 196) rfl) rfl)⟩
theorem lk_RX12_526 : bk_lk RX12 526 yX12_copiesLong := Or.inl (bk_in9 (List.mem_of_getElem? (i := 96) rfl) rfl)
theorem mc_X12_copiesLong : bk_mc yX12_copiesLong cX12_copiesLong 3 (none : Option FieldType) 2 := ⟨bk_in9 (List.mem_of_getElem? (i := 98) rfl) rfl, bk_in1 (List.mem_of_getElem? (i := 14) rfl) rfl, by decide, by decide, by decide +kernel⟩
theorem st_X12_copiesLong : Cond.static yX12_copiesLong ∈ bk_GW := bk_in9 (List.mem_of_getElem? (i := 97) rfl) rfl
theorem fl_RX12_118 : bk_fl RX12 118 11 83 := ⟨_, _, _, _, ok_11, by decide, Or.inl (bk_in6 (List.mem_of_getElem? (i := 197) rfl) rfl)⟩
theorem fl_RX12_121 : bk_fl RX12 121 11 84 := ⟨_, _, _, _, ok_11, by decide, Or.inl (bk_in6 (List.mem_of_getElem? (i := 198) rfl) rfl)⟩
theorem lk_RX12_133 : bk_lk RX12 133 yX12_lays := Or.inl (bk_in7 (List.mem_of_getElem? (i := 138) rfl) rfl)
theorem mc_X12_lays : bk_mc yX12_lays cX12_lays 3 (none : Option FieldType) 1 := ⟨bk_in7 (List.mem_of_getElem? (i := 141) rfl) rfl, bk_in1 (List.mem_of_getElem? (i := 14) rfl) rfl, by decide, by decide, by decide +kernel⟩
theorem mv_X12_lays : bk_mv yX12_lays := ⟨bk_in7 (List.mem_of_getElem? (i := 140) rfl) rfl, bk_inP4 (List.mem_of_getElem? (i := 1) rfl) rfl⟩
theorem fl_RX12_106 : bk_fl RX12 106 11 70 := ⟨_, _, _, _, ok_11, by decide, Or.inl (bk_in6 (List.mem_of_getElem? (i := 184) rfl) rfl)⟩
theorem fl_RX12_342 : bk_fl RX12 342 11 69 := ⟨_, _, _, _, ok_11, by decide, Or.inl (bk_in6 (List.mem_of_getElem? (i := 183) rfl) rfl)⟩
theorem fp_RX12_514 : bk_fp RX12 514 11 78 .int false := ⟨_, _, _, _, ok_11, by decide, rfl, bk_in6 (List.mem_of_getElem? (i := 192) rfl) rfl, Or.inl rfl⟩
theorem fp_RX12_517 : bk_fp RX12 517 11 79 .int false := ⟨_, _, _, _, ok_11, by decide, rfl, bk_in6 (List.mem_of_getElem? (i := 193) rfl) rfl, Or.inl rfl⟩
theorem fp_RX12_520 : bk_fp RX12 520 11 80 .int false := ⟨_, _, _, _, ok_11, by decide, rfl, bk_in6 (List.mem_of_getElem? (i := 194) rfl) rfl, Or.inl rfl⟩
theorem fp_RX12_523 : bk_fp RX12 523 11 81 .int false := ⟨_, _, _, _, ok_11, by decide, rfl, bk_in6 (List.mem_of_getElem? (i := 195) rfl) rfl, Or.inl rfl⟩
theorem oi_RX12 : Cond.methodLink RX12 1 Lib.objectInit ∈ bk_GW := bk_in6 (List.mem_of_getElem? (i := 101) rfl) rfl
theorem oj : Cond.instanceMethod Lib.objectInit ∈ bk_GW := bk_in1 (List.mem_of_getElem? (i := 32) rfl) rfl
theorem ok_obj : Cond.code Lib.objectInit ⟨#[0xb1]⟩ 1 none ∈ bk_GW := bk_in1 (List.mem_of_getElem? (i := 33) rfl) rfl
theorem ac_2 : Cond.arrayClass (newarray.typeOf .int) ∈ bk_GW := bk_in1 (List.mem_of_getElem? (i := 80) rfl) rfl
theorem fp_RX12_37 : bk_fp RX12 37 11 14 (.array .int) true := ⟨_, _, _, _, ok_11, by decide, rfl, bk_in6 (List.mem_of_getElem? (i := 128) rfl) rfl, Or.inr ⟨rfl, rfl, rfl⟩⟩
theorem fp_RX12_41 : bk_fp RX12 41 11 15 (.array .int) true := ⟨_, _, _, _, ok_11, by decide, rfl, bk_in6 (List.mem_of_getElem? (i := 129) rfl) rfl, Or.inr ⟨rfl, rfl, rfl⟩⟩
theorem fp_RX12_44 : bk_fp RX12 44 11 16 (.array .int) true := ⟨_, _, _, _, ok_11, by decide, rfl, bk_in6 (List.mem_of_getElem? (i := 130) rfl) rfl, Or.inr ⟨rfl, rfl, rfl⟩⟩
theorem fp_RX12_47 : bk_fp RX12 47 11 17 (.array .int) true := ⟨_, _, _, _, ok_11, by decide, rfl, bk_in6 (List.mem_of_getElem? (i := 131) rfl) rfl, Or.inr ⟨rfl, rfl, rfl⟩⟩
theorem fp_RX12_50 : bk_fp RX12 50 11 18 (.array .int) true := ⟨_, _, _, _, ok_11, by decide, rfl, bk_in6 (List.mem_of_getElem? (i := 132) rfl) rfl, Or.inr ⟨rfl, rfl, rfl⟩⟩
theorem fp_RX12_53 : bk_fp RX12 53 11 19 (.array .int) true := ⟨_, _, _, _, ok_11, by decide, rfl, bk_in6 (List.mem_of_getElem? (i := 133) rfl) rfl, Or.inr ⟨rfl, rfl, rfl⟩⟩
theorem fp_RX12_59 : bk_fp RX12 59 11 23 (.array .int) true := ⟨_, _, _, _, ok_11, by decide, rfl, bk_in6 (List.mem_of_getElem? (i := 137) rfl) rfl, Or.inr ⟨rfl, rfl, rfl⟩⟩
theorem fp_RX12_62 : bk_fp RX12 62 11 51 (.array .int) true := ⟨_, _, _, _, ok_11, by decide, rfl, bk_in6 (List.mem_of_getElem? (i := 165) rfl) rfl, Or.inr ⟨rfl, rfl, rfl⟩⟩
theorem fp_RX12_65 : bk_fp RX12 65 11 52 (.array .int) true := ⟨_, _, _, _, ok_11, by decide, rfl, bk_in6 (List.mem_of_getElem? (i := 166) rfl) rfl, Or.inr ⟨rfl, rfl, rfl⟩⟩
theorem fp_RX12_68 : bk_fp RX12 68 11 53 (.array .int) true := ⟨_, _, _, _, ok_11, by decide, rfl, bk_in6 (List.mem_of_getElem? (i := 167) rfl) rfl, Or.inr ⟨rfl, rfl, rfl⟩⟩
theorem fp_RX12_71 : bk_fp RX12 71 11 54 (.array .int) true := ⟨_, _, _, _, ok_11, by decide, rfl, bk_in6 (List.mem_of_getElem? (i := 168) rfl) rfl, Or.inr ⟨rfl, rfl, rfl⟩⟩
theorem fp_RX12_74 : bk_fp RX12 74 11 55 (.array .int) true := ⟨_, _, _, _, ok_11, by decide, rfl, bk_in6 (List.mem_of_getElem? (i := 169) rfl) rfl, Or.inr ⟨rfl, rfl, rfl⟩⟩
theorem fp_RX12_77 : bk_fp RX12 77 11 56 (.array .int) true := ⟨_, _, _, _, ok_11, by decide, rfl, bk_in6 (List.mem_of_getElem? (i := 170) rfl) rfl, Or.inr ⟨rfl, rfl, rfl⟩⟩
theorem ac_5 : Cond.arrayClass (newarray.typeOf .boolean) ∈ bk_GW := bk_in1 (List.mem_of_getElem? (i := 164) rfl) rfl
theorem fp_RX12_80 : bk_fp RX12 80 11 57 (.array .boolean) true := ⟨_, _, _, _, ok_11, by decide, rfl, bk_in6 (List.mem_of_getElem? (i := 171) rfl) rfl, Or.inr ⟨rfl, rfl, rfl⟩⟩
theorem ac_3 : Cond.arrayClass (newarray.typeOf .long) ∈ bk_GW := bk_in1 (List.mem_of_getElem? (i := 79) rfl) rfl
theorem fp_RX12_84 : bk_fp RX12 84 11 62 (.array .long) true := ⟨_, _, _, _, ok_11, by decide, rfl, bk_in6 (List.mem_of_getElem? (i := 176) rfl) rfl, Or.inr ⟨rfl, rfl, rfl⟩⟩
theorem fp_RX12_88 : bk_fp RX12 88 11 63 (.array .long) true := ⟨_, _, _, _, ok_11, by decide, rfl, bk_in6 (List.mem_of_getElem? (i := 177) rfl) rfl, Or.inr ⟨rfl, rfl, rfl⟩⟩
theorem fp_RX12_91 : bk_fp RX12 91 11 64 (.array .int) true := ⟨_, _, _, _, ok_11, by decide, rfl, bk_in6 (List.mem_of_getElem? (i := 178) rfl) rfl, Or.inr ⟨rfl, rfl, rfl⟩⟩
theorem fp_RX12_94 : bk_fp RX12 94 11 65 (.array .int) true := ⟨_, _, _, _, ok_11, by decide, rfl, bk_in6 (List.mem_of_getElem? (i := 179) rfl) rfl, Or.inr ⟨rfl, rfl, rfl⟩⟩
theorem fp_RX12_97 : bk_fp RX12 97 11 66 (.array .int) true := ⟨_, _, _, _, ok_11, by decide, rfl, bk_in6 (List.mem_of_getElem? (i := 180) rfl) rfl, Or.inr ⟨rfl, rfl, rfl⟩⟩
theorem fp_RX12_100 : bk_fp RX12 100 11 67 (.array .long) true := ⟨_, _, _, _, ok_11, by decide, rfl, bk_in6 (List.mem_of_getElem? (i := 181) rfl) rfl, Or.inr ⟨rfl, rfl, rfl⟩⟩
theorem fp_RX12_103 : bk_fp RX12 103 11 68 (.array .long) true := ⟨_, _, _, _, ok_11, by decide, rfl, bk_in6 (List.mem_of_getElem? (i := 182) rfl) rfl, Or.inr ⟨rfl, rfl, rfl⟩⟩
theorem fp_RX12_106 : bk_fp RX12 106 11 70 (.array .int) true := ⟨_, _, _, _, ok_11, by decide, rfl, bk_in6 (List.mem_of_getElem? (i := 184) rfl) rfl, Or.inr ⟨rfl, rfl, rfl⟩⟩
theorem fp_RX12_109 : bk_fp RX12 109 11 74 (.array .long) true := ⟨_, _, _, _, ok_11, by decide, rfl, bk_in6 (List.mem_of_getElem? (i := 188) rfl) rfl, Or.inr ⟨rfl, rfl, rfl⟩⟩
theorem fp_RX12_112 : bk_fp RX12 112 11 76 (.array .int) true := ⟨_, _, _, _, ok_11, by decide, rfl, bk_in6 (List.mem_of_getElem? (i := 190) rfl) rfl, Or.inr ⟨rfl, rfl, rfl⟩⟩
theorem fp_RX12_115 : bk_fp RX12 115 11 82 (.array .long) true := ⟨_, _, _, _, ok_11, by decide, rfl, bk_in6 (List.mem_of_getElem? (i := 196) rfl) rfl, Or.inr ⟨rfl, rfl, rfl⟩⟩
theorem fp_RX12_118 : bk_fp RX12 118 11 83 (.array .long) true := ⟨_, _, _, _, ok_11, by decide, rfl, bk_in6 (List.mem_of_getElem? (i := 197) rfl) rfl, Or.inr ⟨rfl, rfl, rfl⟩⟩
theorem fp_RX12_121 : bk_fp RX12 121 11 84 (.array .int) true := ⟨_, _, _, _, ok_11, by decide, rfl, bk_in6 (List.mem_of_getElem? (i := 198) rfl) rfl, Or.inr ⟨rfl, rfl, rfl⟩⟩
