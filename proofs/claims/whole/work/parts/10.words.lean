theorem ok_6 : bk_ok 6 RX7 TX7 2 tyX7 := ⟨rfl, bk_inL _ [44, 46] (by decide +kernel) (by decide +kernel), tyX7_ok, nmX7, by decide +kernel⟩
theorem fl_RX7_15 : bk_fl RX7 15 6 1 := ⟨_, _, _, _, ok_6, by decide, Or.inl (bk_in1 (List.mem_of_getElem? (i := 42) rfl) rfl)⟩
theorem fl_RX7_9 : bk_fl RX7 9 6 0 := ⟨_, _, _, _, ok_6, by decide, Or.inl (bk_in1 (List.mem_of_getElem? (i := 40) rfl) rfl)⟩
theorem fp_RX7_15 : bk_fp RX7 15 6 1 .int false := ⟨_, _, _, _, ok_6, by decide, rfl, bk_in1 (List.mem_of_getElem? (i := 42) rfl) rfl, Or.inl rfl⟩
theorem ok_10 : bk_ok 10 RX11 TX11 15 tyX11 := ⟨rfl, bk_inL _ [347, 349, 351, 353, 355, 357, 359, 361, 363, 365, 367, 369, 371, 373, 375] (by decide +kernel) (by decide +kernel), tyX11_ok, nmX11, by decide +kernel⟩
theorem fl_RX11_10 : bk_fl RX11 10 10 0 := ⟨_, _, _, _, ok_10, by decide, Or.inl (bk_in2 (List.mem_of_getElem? (i := 92) rfl) rfl)⟩
theorem lk_RX11_67 : bk_lk RX11 67 yX7_hasRoom := Or.inl (bk_in2 (List.mem_of_getElem? (i := 142) rfl) rfl)
theorem mc_X7_hasRoom : bk_mc yX7_hasRoom cX7_hasRoom 1 (some FieldType.boolean) 0 := ⟨bk_in2 (List.mem_of_getElem? (i := 145) rfl) rfl, bk_in1 (List.mem_of_getElem? (i := 2) rfl) rfl, by decide, by decide, by decide +kernel⟩
theorem mv_X7_hasRoom : bk_mv yX7_hasRoom := ⟨bk_in2 (List.mem_of_getElem? (i := 143) rfl) rfl, bk_in2 (List.mem_of_getElem? (i := 144) rfl) rfl⟩
theorem lk_RX11_71 : bk_lk RX11 71 yX7_add := Or.inl (bk_in2 (List.mem_of_getElem? (i := 146) rfl) rfl)
theorem mc_X7_add : bk_mc yX7_add cX7_add 3 (none : Option FieldType) 1 := ⟨bk_in2 (List.mem_of_getElem? (i := 149) rfl) rfl, bk_in1 (List.mem_of_getElem? (i := 2) rfl) rfl, by decide, by decide, by decide +kernel⟩
theorem mv_X7_add : bk_mv yX7_add := ⟨bk_in2 (List.mem_of_getElem? (i := 147) rfl) rfl, bk_in2 (List.mem_of_getElem? (i := 148) rfl) rfl⟩
theorem fl_RX11_75 : bk_fl RX11 75 6 1 := ⟨_, _, _, _, ok_6, by decide, Or.inl (bk_in1 (List.mem_of_getElem? (i := 43) rfl) rfl)⟩
theorem cl_RX11_153 : Cond.classLink RX11 153 (bk_exc 1) ∈ bk_GW := bk_in4 (List.mem_of_getElem? (i := 179) rfl) rfl
theorem in_exc1 : Cond.initialized (bk_exc 1) ∈ bk_GW := bk_in1 (List.mem_of_getElem? (i := 23) rfl) rfl
theorem tw0_157 : (bk_tx RX11 157 "java/util/NoSuchElementException").filter goodWord = [15, 600, 609, 612, 615, 617, 601, 602, 32, 33, 603, 608, 613, 633, 590, 634, 592, 635, 594, 604, 606, 596, 629, 630, 632, 596, 910, 623, 623, 624, 625, 626, 626, 627, 628, 629, 909, 900, 902, 611, 903, 904, 905, 906, 599, 598, 907].filterMap (fun i => tables_1[i]?) := by decide +kernel
theorem tw1_157 : ∀ w ∈ (bk_tx RX11 157 "java/util/NoSuchElementException").filter goodWord, w ∈ lw_tbl := by
  intro w hw
  rw [tw0_157] at hw
  obtain ⟨i, -, hi⟩ := List.mem_filterMap.mp hw
  exact List.mem_append_right _ (List.mem_of_getElem? hi)
theorem tw2_157 : ∀ w ∈ (bk_tx RX11 157 "java/util/NoSuchElementException").filter (fun w => !goodWord w), w ∈ bk_nest := by decide +kernel
theorem cx_1 : Cond.code (Bundle.initS (bk_exc 1)) prog_31_method_4_code 2 none ∈ bk_GW := bk_in4 (List.mem_of_getElem? (i := 191) rfl) rfl
theorem lx_1 : Cond.methodLink (bk_exc 1) 13 (Bundle.initS bk_R) ∈ bk_GW := bk_in4 (List.mem_of_getElem? (i := 192) rfl) rfl
theorem tw3_157_153 : ∀ w ∈ Cond.classLink RX11 153 "java/util/NoSuchElementException" :: Cond.initialized "java/util/NoSuchElementException" :: Cond.code (Bundle.initS "java/util/NoSuchElementException") prog_31_method_4_code 2 none :: Cond.methodLink "java/util/NoSuchElementException" 13 (Bundle.initS bk_R) :: bk_tx RX11 157 "java/util/NoSuchElementException", vx_ot w = true := by decide +kernel
theorem x0_1 : decode prog_31_method_4_code 0 = .ok (.aload_n 0, 1) := by decide +kernel
theorem x1_1 : decode prog_31_method_4_code 1 = .ok (.aload_n 1, 1) := by decide +kernel
theorem x2_1 : decode prog_31_method_4_code 2 = .ok (.invokespecial 13, 3) := by decide +kernel
theorem x5_1 : decode prog_31_method_4_code 5 = .ok (.return_, 1) := by decide +kernel
theorem lk_RX12_348 : bk_lk RX12 348 yX12_within := Or.inl (bk_in8 (List.mem_of_getElem? (i := 37) rfl) rfl)
theorem mc_X12_within : bk_mc yX12_within cX12_within 3 (some FieldType.boolean) 3 := ⟨bk_in8 (List.mem_of_getElem? (i := 39) rfl) rfl, bk_in1 (List.mem_of_getElem? (i := 14) rfl) rfl, by decide, by decide, by decide +kernel⟩
theorem st_X12_within : Cond.static yX12_within ∈ bk_GW := bk_in8 (List.mem_of_getElem? (i := 38) rfl) rfl
theorem ok_11 : bk_ok 11 RX12 TX12 85 tyX12 := ⟨rfl, bk_inL _ [1399, 1401, 1403, 1405, 1407, 1409, 1411, 1413, 1415, 1417, 1419, 1421, 1423, 1425, 1427, 1429, 1431, 1433, 1435, 1437, 1439, 1441, 1443, 1445, 1447, 1449, 1451, 1453, 1455, 1457, 1459, 1461, 1463, 1465, 1467, 1469, 1471, 1473, 1475, 1477, 1479, 1481, 1483, 1485, 1487, 1489, 1491, 1493, 1495, 1497, 1499, 1501, 1503, 1505, 1507, 1509, 1511, 1513, 1515, 1517, 1519, 1521, 1523, 1525, 1527, 1529, 1531, 1533, 1535, 1537, 1539, 1541, 1543, 1545, 1547, 1549, 1551, 1553, 1555, 1557, 1559, 1561, 1563, 1565, 1567] (by decide +kernel) (by decide +kernel), tyX12_ok, nmX12, by decide +kernel⟩
theorem fl_RX12_183 : bk_fl RX12 183 11 21 := ⟨_, _, _, _, ok_11, by decide, Or.inl (bk_in6 (List.mem_of_getElem? (i := 135) rfl) rfl)⟩
theorem fl_RX12_137 : bk_fl RX12 137 11 24 := ⟨_, _, _, _, ok_11, by decide, Or.inl (bk_in6 (List.mem_of_getElem? (i := 138) rfl) rfl)⟩
theorem fl_RX12_53 : bk_fl RX12 53 11 19 := ⟨_, _, _, _, ok_11, by decide, Or.inl (bk_in6 (List.mem_of_getElem? (i := 133) rfl) rfl)⟩
theorem fl_RX12_140 : bk_fl RX12 140 11 25 := ⟨_, _, _, _, ok_11, by decide, Or.inl (bk_in6 (List.mem_of_getElem? (i := 139) rfl) rfl)⟩
theorem fl_RX12_147 : bk_fl RX12 147 11 27 := ⟨_, _, _, _, ok_11, by decide, Or.inl (bk_in6 (List.mem_of_getElem? (i := 141) rfl) rfl)⟩
theorem fp_RX12_170 : bk_fp RX12 170 11 28 .int false := ⟨_, _, _, _, ok_11, by decide, rfl, bk_in6 (List.mem_of_getElem? (i := 142) rfl) rfl, Or.inl rfl⟩
theorem fp_RX12_140 : bk_fp RX12 140 11 25 .int false := ⟨_, _, _, _, ok_11, by decide, rfl, bk_in6 (List.mem_of_getElem? (i := 139) rfl) rfl, Or.inl rfl⟩
theorem lk_RX12_143 : bk_lk RX12 143 yX12_byteAt := Or.inl (bk_in7 (List.mem_of_getElem? (i := 158) rfl) rfl)
theorem mc_X12_byteAt : bk_mc yX12_byteAt cX12_byteAt 2 (some FieldType.int) 1 := ⟨bk_in7 (List.mem_of_getElem? (i := 161) rfl) rfl, bk_in1 (List.mem_of_getElem? (i := 14) rfl) rfl, by decide, by decide, by decide +kernel⟩
theorem mv_X12_byteAt : bk_mv yX12_byteAt := ⟨bk_in7 (List.mem_of_getElem? (i := 160) rfl) rfl, bk_inP4 (List.mem_of_getElem? (i := 5) rfl) rfl⟩
theorem lk_RX12_163 : bk_lk RX12 163 yX12_isLetter := Or.inl (bk_in7 (List.mem_of_getElem? (i := 162) rfl) rfl)
theorem mc_X12_isLetter : bk_mc yX12_isLetter cX12_isLetter 1 (some FieldType.boolean) 1 := ⟨bk_in7 (List.mem_of_getElem? (i := 164) rfl) rfl, bk_in1 (List.mem_of_getElem? (i := 14) rfl) rfl, by decide, by decide, by decide +kernel⟩
theorem st_X12_isLetter : Cond.static yX12_isLetter ∈ bk_GW := bk_in7 (List.mem_of_getElem? (i := 163) rfl) rfl
theorem fp_RX12_160 : bk_fp RX12 160 11 26 .int false := ⟨_, _, _, _, ok_11, by decide, rfl, bk_in6 (List.mem_of_getElem? (i := 140) rfl) rfl, Or.inl rfl⟩
theorem fl_RX12_150 : bk_fl RX12 150 11 31 := ⟨_, _, _, _, ok_11, by decide, Or.inl (bk_in6 (List.mem_of_getElem? (i := 145) rfl) rfl)⟩
theorem fp_RX12_150 : bk_fp RX12 150 11 31 .long false := ⟨_, _, _, _, ok_11, by decide, rfl, bk_in6 (List.mem_of_getElem? (i := 145) rfl) rfl, Or.inl rfl⟩
theorem lk_RX12_167 : bk_lk RX12 167 yX12_isDigit := Or.inl (bk_in7 (List.mem_of_getElem? (i := 165) rfl) rfl)
theorem mc_X12_isDigit : bk_mc yX12_isDigit cX12_isDigit 1 (some FieldType.boolean) 1 := ⟨bk_in7 (List.mem_of_getElem? (i := 167) rfl) rfl, bk_in1 (List.mem_of_getElem? (i := 14) rfl) rfl, by decide, by decide, by decide +kernel⟩
theorem st_X12_isDigit : Cond.static yX12_isDigit ∈ bk_GW := bk_in7 (List.mem_of_getElem? (i := 166) rfl) rfl
theorem fl_RX12_154 : bk_fl RX12 154 11 29 := ⟨_, _, _, _, ok_11, by decide, Or.inl (bk_in6 (List.mem_of_getElem? (i := 143) rfl) rfl)⟩
theorem fp_RX12_154 : bk_fp RX12 154 11 29 .int false := ⟨_, _, _, _, ok_11, by decide, rfl, bk_in6 (List.mem_of_getElem? (i := 143) rfl) rfl, Or.inl rfl⟩
theorem fp_RX12_147 : bk_fp RX12 147 11 27 .int false := ⟨_, _, _, _, ok_11, by decide, rfl, bk_in6 (List.mem_of_getElem? (i := 141) rfl) rfl, Or.inl rfl⟩
theorem fp_RX12_157 : bk_fp RX12 157 11 30 .int false := ⟨_, _, _, _, ok_11, by decide, rfl, bk_in6 (List.mem_of_getElem? (i := 144) rfl) rfl, Or.inl rfl⟩
theorem fp_RX12_183 : bk_fp RX12 183 11 21 .int false := ⟨_, _, _, _, ok_11, by decide, rfl, bk_in6 (List.mem_of_getElem? (i := 135) rfl) rfl, Or.inl rfl⟩
theorem fp_RX12_56 : bk_fp RX12 56 11 22 .int false := ⟨_, _, _, _, ok_11, by decide, rfl, bk_in6 (List.mem_of_getElem? (i := 136) rfl) rfl, Or.inl rfl⟩
theorem lk_RX12_186 : bk_lk RX12 186 yX12_isGood := Or.inl (bk_in7 (List.mem_of_getElem? (i := 183) rfl) rfl)
theorem mc_X12_isGood : bk_mc yX12_isGood cX12_isGood 1 (some FieldType.boolean) 0 := ⟨bk_in7 (List.mem_of_getElem? (i := 186) rfl) rfl, bk_in1 (List.mem_of_getElem? (i := 14) rfl) rfl, by decide, by decide, by decide +kernel⟩
theorem mv_X12_isGood : bk_mv yX12_isGood := ⟨bk_in7 (List.mem_of_getElem? (i := 185) rfl) rfl, bk_inP4 (List.mem_of_getElem? (i := 8) rfl) rfl⟩
theorem lk_RX12_193 : bk_lk RX12 193 yX12_wrong := Or.inl (bk_in7 (List.mem_of_getElem? (i := 187) rfl) rfl)
theorem mc_X12_wrong : bk_mc yX12_wrong cX12_wrong 2 (none : Option FieldType) 1 := ⟨bk_in7 (List.mem_of_getElem? (i := 190) rfl) rfl, bk_in1 (List.mem_of_getElem? (i := 14) rfl) rfl, by decide, by decide, by decide +kernel⟩
theorem mv_X12_wrong : bk_mv yX12_wrong := ⟨bk_in7 (List.mem_of_getElem? (i := 189) rfl) rfl, bk_inP4 (List.mem_of_getElem? (i := 9) rfl) rfl⟩
theorem lk_RX12_190 : bk_lk RX12 190 yX12_goes := Or.inl (bk_in7 (List.mem_of_getElem? (i := 154) rfl) rfl)
theorem mc_X12_goes : bk_mc yX12_goes cX12_goes 2 (none : Option FieldType) 0 := ⟨bk_in7 (List.mem_of_getElem? (i := 157) rfl) rfl, bk_in1 (List.mem_of_getElem? (i := 14) rfl) rfl, by decide, by decide, by decide +kernel⟩
theorem mv_X12_goes : bk_mv yX12_goes := ⟨bk_in7 (List.mem_of_getElem? (i := 156) rfl) rfl, bk_inP4 (List.mem_of_getElem? (i := 4) rfl) rfl⟩
theorem ok_0 : bk_ok 0 RX1 TX1 5 tyX1 := ⟨rfl, bk_inL _ [107, 109, 111, 113, 115] (by decide +kernel) (by decide +kernel), tyX1_ok, nmX1, by decide +kernel⟩
theorem fl_RX1_25 : bk_fl RX1 25 0 3 := ⟨_, _, _, _, ok_0, by decide, Or.inl (bk_in1 (List.mem_of_getElem? (i := 102) rfl) rfl)⟩
theorem fl_RX11_33 : bk_fl RX11 33 10 5 := ⟨_, _, _, _, ok_10, by decide, Or.inl (bk_in2 (List.mem_of_getElem? (i := 97) rfl) rfl)⟩
theorem ok_4 : bk_ok 4 RX5 TX5 8 tyX5 := ⟨rfl, bk_inL _ [209, 211, 213, 215, 217, 219, 221, 223] (by decide +kernel) (by decide +kernel), tyX5_ok, nmX5, by decide +kernel⟩
theorem fl_RX11_121 : bk_fl RX11 121 4 2 := ⟨_, _, _, _, ok_4, by decide, Or.inl (bk_in1 (List.mem_of_getElem? (i := 196) rfl) rfl)⟩
theorem fl_RX11_125 : bk_fl RX11 125 0 4 := ⟨_, _, _, _, ok_0, by decide, Or.inl (bk_in1 (List.mem_of_getElem? (i := 105) rfl) rfl)⟩
theorem fl_RX11_63 : bk_fl RX11 63 10 7 := ⟨_, _, _, _, ok_10, by decide, Or.inl (bk_in2 (List.mem_of_getElem? (i := 99) rfl) rfl)⟩
theorem ok_5 : bk_ok 5 RX6 TX6 5 tyX6 := ⟨rfl, bk_inL _ [321, 323, 325, 327, 329] (by decide +kernel) (by decide +kernel), tyX6_ok, nmX6, by decide +kernel⟩
theorem fl_RX11_176 : bk_fl RX11 176 5 3 := ⟨_, _, _, _, ok_5, by decide, Or.inl (bk_in2 (List.mem_of_getElem? (i := 78) rfl) rfl)⟩
theorem lk_RX11_172 : bk_lk RX11 172 yX1_isSlow := Or.inl (bk_in2 (List.mem_of_getElem? (i := 162) rfl) rfl)
theorem mc_X1_isSlow : bk_mc yX1_isSlow cX1_isSlow 2 (some FieldType.boolean) 1 := ⟨bk_in2 (List.mem_of_getElem? (i := 165) rfl) rfl, bk_in1 (List.mem_of_getElem? (i := 5) rfl) rfl, by decide, by decide, by decide +kernel⟩
theorem mv_X1_isSlow : bk_mv yX1_isSlow := ⟨bk_in2 (List.mem_of_getElem? (i := 163) rfl) rfl, bk_in2 (List.mem_of_getElem? (i := 164) rfl) rfl⟩
theorem ok_3 : bk_ok 3 RX4 TX4 3 tyX4 := ⟨rfl, bk_inL _ [174, 176, 178] (by decide +kernel) (by decide +kernel), tyX4_ok, nmX4, by decide +kernel⟩
theorem fl_RX4_18 : bk_fl RX4 18 3 2 := ⟨_, _, _, _, ok_3, by decide, Or.inl (bk_in1 (List.mem_of_getElem? (i := 173) rfl) rfl)⟩
theorem fl_RX4_9 : bk_fl RX4 9 3 0 := ⟨_, _, _, _, ok_3, by decide, Or.inl (bk_in1 (List.mem_of_getElem? (i := 171) rfl) rfl)⟩
theorem fl_RX5_42 : bk_fl RX5 42 4 5 := ⟨_, _, _, _, ok_4, by decide, Or.inl (bk_in1 (List.mem_of_getElem? (i := 204) rfl) rfl)⟩
theorem lk_RX5_113 : bk_lk RX5 113 yX4_asks := Or.inl (bk_in2 (List.mem_of_getElem? (i := 238) rfl) rfl)
theorem mc_X4_asks : bk_mc yX4_asks cX4_asks 3 (some FieldType.boolean) 1 := ⟨bk_in3 (List.mem_of_getElem? (i := 1) rfl) rfl, bk_in1 (List.mem_of_getElem? (i := 8) rfl) rfl, by decide, by decide, by decide +kernel⟩
theorem mv_X4_asks : bk_mv yX4_asks := ⟨bk_in2 (List.mem_of_getElem? (i := 239) rfl) rfl, bk_in3 (List.mem_of_getElem? (i := 0) rfl) rfl⟩
theorem lk_RX4_30 : bk_lk RX4 30 yX4_oneIf := Or.inl (bk_in2 (List.mem_of_getElem? (i := 185) rfl) rfl)
theorem mc_X4_oneIf : bk_mc yX4_oneIf cX4_oneIf 1 (some FieldType.int) 1 := ⟨bk_in2 (List.mem_of_getElem? (i := 187) rfl) rfl, bk_in1 (List.mem_of_getElem? (i := 8) rfl) rfl, by decide, by decide, by decide +kernel⟩
theorem st_X4_oneIf : Cond.static yX4_oneIf ∈ bk_GW := bk_in2 (List.mem_of_getElem? (i := 186) rfl) rfl
theorem fl_RX4_15 : bk_fl RX4 15 3 1 := ⟨_, _, _, _, ok_3, by decide, Or.inl (bk_in1 (List.mem_of_getElem? (i := 172) rfl) rfl)⟩
theorem lk_RX4_34 : bk_lk RX4 34 yX4_joined := Or.inl (bk_in2 (List.mem_of_getElem? (i := 188) rfl) rfl)
theorem mc_X4_joined : bk_mc yX4_joined cX4_joined 3 (some FieldType.int) 3 := ⟨bk_in2 (List.mem_of_getElem? (i := 190) rfl) rfl, bk_in1 (List.mem_of_getElem? (i := 8) rfl) rfl, by decide, by decide, by decide +kernel⟩
theorem st_X4_joined : Cond.static yX4_joined ∈ bk_GW := bk_in2 (List.mem_of_getElem? (i := 189) rfl) rfl
theorem lk_RX4_26 : bk_lk RX4 26 yX4_numberOf := Or.inl (bk_in2 (List.mem_of_getElem? (i := 182) rfl) rfl)
theorem mc_X4_numberOf : bk_mc yX4_numberOf cX4_numberOf 3 (some FieldType.int) 2 := ⟨bk_in2 (List.mem_of_getElem? (i := 184) rfl) rfl, bk_in1 (List.mem_of_getElem? (i := 8) rfl) rfl, by decide, by decide, by decide +kernel⟩
theorem st_X4_numberOf : Cond.static yX4_numberOf ∈ bk_GW := bk_in2 (List.mem_of_getElem? (i := 183) rfl) rfl
theorem fl_RX5_49 : bk_fl RX5 49 4 7 := ⟨_, _, _, _, ok_4, by decide, Or.inl (bk_in1 (List.mem_of_getElem? (i := 208) rfl) rfl)⟩
theorem lk_RX5_127 : bk_lk RX5 127 yX4_valueBy := Or.inl (bk_in2 (List.mem_of_getElem? (i := 178) rfl) rfl)
theorem mc_X4_valueBy : bk_mc yX4_valueBy cX4_valueBy 5 (some FieldType.int) 1 := ⟨bk_in2 (List.mem_of_getElem? (i := 181) rfl) rfl, bk_in1 (List.mem_of_getElem? (i := 8) rfl) rfl, by decide, by decide, by decide +kernel⟩
theorem mv_X4_valueBy : bk_mv yX4_valueBy := ⟨bk_in2 (List.mem_of_getElem? (i := 179) rfl) rfl, bk_in2 (List.mem_of_getElem? (i := 180) rfl) rfl⟩
theorem kc_RX5_131 : Cond.constant RX5 131 50000 ∈ bk_GW := bk_in2 (List.mem_of_getElem? (i := 191) rfl) rfl
theorem lk_RX5_110 : bk_lk RX5 110 yJ9_min_7cf53 := Or.inl (bk_in2 (List.mem_of_getElem? (i := 192) rfl) rfl)
theorem mc_J9_min_7cf53 : bk_mc yJ9_min_7cf53 cJ9_min_7cf53 2 (some FieldType.int) 2 := ⟨bk_in2 (List.mem_of_getElem? (i := 194) rfl) rfl, bk_in1 (List.mem_of_getElem? (i := 13) rfl) rfl, by decide, by decide, by decide +kernel⟩
theorem st_J9_min_7cf53 : Cond.static yJ9_min_7cf53 ∈ bk_GW := bk_in2 (List.mem_of_getElem? (i := 193) rfl) rfl
theorem lk_RX5_62 : bk_lk RX5 62 yJ9_max_7cf53 := Or.inl (bk_in2 (List.mem_of_getElem? (i := 64) rfl) rfl)
theorem mc_J9_max_7cf53 : bk_mc yJ9_max_7cf53 cJ9_max_7cf53 2 (some FieldType.int) 2 := ⟨bk_in2 (List.mem_of_getElem? (i := 66) rfl) rfl, bk_in1 (List.mem_of_getElem? (i := 13) rfl) rfl, by decide, by decide, by decide +kernel⟩
theorem st_J9_max_7cf53 : Cond.static yJ9_max_7cf53 ∈ bk_GW := bk_in2 (List.mem_of_getElem? (i := 65) rfl) rfl
theorem lk_RX5_120 : bk_lk RX5 120 yX4_isTold := Or.inl (bk_in2 (List.mem_of_getElem? (i := 174) rfl) rfl)
theorem mc_X4_isTold : bk_mc yX4_isTold cX4_isTold 1 (some FieldType.boolean) 0 := ⟨bk_in2 (List.mem_of_getElem? (i := 177) rfl) rfl, bk_in1 (List.mem_of_getElem? (i := 8) rfl) rfl, by decide, by decide, by decide +kernel⟩
theorem mv_X4_isTold : bk_mv yX4_isTold := ⟨bk_in2 (List.mem_of_getElem? (i := 175) rfl) rfl, bk_in2 (List.mem_of_getElem? (i := 176) rfl) rfl⟩
theorem fl_RX5_21 : bk_fl RX5 21 4 2 := ⟨_, _, _, _, ok_4, by decide, Or.inl (bk_in1 (List.mem_of_getElem? (i := 195) rfl) rfl)⟩
theorem fl_RX5_124 : bk_fl RX5 124 0 2 := ⟨_, _, _, _, ok_0, by decide, Or.inl (bk_in1 (List.mem_of_getElem? (i := 101) rfl) rfl)⟩
theorem fl_RX5_89 : bk_fl RX5 89 0 1 := ⟨_, _, _, _, ok_0, by decide, Or.inl (bk_in1 (List.mem_of_getElem? (i := 98) rfl) rfl)⟩
theorem fl_RX5_55 : bk_fl RX5 55 0 4 := ⟨_, _, _, _, ok_0, by decide, Or.inl (bk_in1 (List.mem_of_getElem? (i := 104) rfl) rfl)⟩
theorem lk_RX5_116 : bk_lk RX5 116 yX5_goneByHole := Or.inl (bk_in2 (List.mem_of_getElem? (i := 170) rfl) rfl)
theorem mc_X5_goneByHole : bk_mc yX5_goneByHole cX5_goneByHole 5 (some FieldType.int) 4 := ⟨bk_in2 (List.mem_of_getElem? (i := 173) rfl) rfl, bk_in1 (List.mem_of_getElem? (i := 4) rfl) rfl, by decide, by decide, by decide +kernel⟩
theorem mv_X5_goneByHole : bk_mv yX5_goneByHole := ⟨bk_in2 (List.mem_of_getElem? (i := 172) rfl) rfl, bk_inP1 (List.mem_of_getElem? (i := 1) rfl) rfl⟩
theorem fl_RX11_147 : bk_fl RX11 147 5 2 := ⟨_, _, _, _, ok_5, by decide, Or.inl (bk_in2 (List.mem_of_getElem? (i := 76) rfl) rfl)⟩
theorem lk_RX11_185 : bk_lk RX11 185 yX5_goneBy := Or.inl (bk_in2 (List.mem_of_getElem? (i := 166) rfl) rfl)
theorem mc_X5_goneBy : bk_mc yX5_goneBy cX5_goneBy 7 (some FieldType.int) 4 := ⟨bk_in2 (List.mem_of_getElem? (i := 169) rfl) rfl, bk_in1 (List.mem_of_getElem? (i := 4) rfl) rfl, by decide, by decide, by decide +kernel⟩
theorem mv_X5_goneBy : bk_mv yX5_goneBy := ⟨bk_in2 (List.mem_of_getElem? (i := 167) rfl) rfl, bk_in2 (List.mem_of_getElem? (i := 168) rfl) rfl⟩
theorem fl_RX11_144 : bk_fl RX11 144 5 1 := ⟨_, _, _, _, ok_5, by decide, Or.inl (bk_in2 (List.mem_of_getElem? (i := 74) rfl) rfl)⟩
theorem lk_RX11_217 : bk_lk RX11 217 yX5_leaksAlikeEachMinute := Or.inl (bk_in2 (List.mem_of_getElem? (i := 234) rfl) rfl)
theorem mc_X5_leaksAlikeEachMinute : bk_mc yX5_leaksAlikeEachMinute cX5_leaksAlikeEachMinute 2 (some FieldType.boolean) 1 := ⟨bk_in2 (List.mem_of_getElem? (i := 237) rfl) rfl, bk_in1 (List.mem_of_getElem? (i := 4) rfl) rfl, by decide, by decide, by decide +kernel⟩
theorem mv_X5_leaksAlikeEachMinute : bk_mv yX5_leaksAlikeEachMinute := ⟨bk_in2 (List.mem_of_getElem? (i := 235) rfl) rfl, bk_in2 (List.mem_of_getElem? (i := 236) rfl) rfl⟩
theorem lk_RX11_181 : bk_lk RX11 181 yX11_leakingHoles := Or.inl (bk_in2 (List.mem_of_getElem? (i := 158) rfl) rfl)
theorem mc_X11_leakingHoles : bk_mc yX11_leakingHoles cX11_leakingHoles 4 (some FieldType.int) 1 := ⟨bk_in2 (List.mem_of_getElem? (i := 161) rfl) rfl, bk_in1 (List.mem_of_getElem? (i := 1) rfl) rfl, by decide, by decide, by decide +kernel⟩
theorem mv_X11_leakingHoles : bk_mv yX11_leakingHoles := ⟨bk_in2 (List.mem_of_getElem? (i := 160) rfl) rfl, bk_inP1 (List.mem_of_getElem? (i := 0) rfl) rfl⟩
theorem lk_RX11_207 : bk_lk RX11 207 yX11_minutesTillFlat := Or.inl (bk_in2 (List.mem_of_getElem? (i := 230) rfl) rfl)
theorem mc_X11_minutesTillFlat : bk_mc yX11_minutesTillFlat cX11_minutesTillFlat 7 (some FieldType.int) 2 := ⟨bk_in2 (List.mem_of_getElem? (i := 233) rfl) rfl, bk_in1 (List.mem_of_getElem? (i := 1) rfl) rfl, by decide, by decide, by decide +kernel⟩
theorem mv_X11_minutesTillFlat : bk_mv yX11_minutesTillFlat := ⟨bk_in2 (List.mem_of_getElem? (i := 232) rfl) rfl, bk_inP1 (List.mem_of_getElem? (i := 4) rfl) rfl⟩
theorem fl_RX12_127 : bk_fl RX12 127 11 0 := ⟨_, _, _, _, ok_11, by decide, Or.inl (bk_in6 (List.mem_of_getElem? (i := 114) rfl) rfl)⟩
theorem fp_RX12_127 : bk_fp RX12 127 11 0 .int false := ⟨_, _, _, _, ok_11, by decide, rfl, bk_in6 (List.mem_of_getElem? (i := 114) rfl) rfl, Or.inl rfl⟩
theorem ok_7 : bk_ok 7 RX8 TX8 6 tyX8 := ⟨rfl, bk_inL _ [263, 265, 267, 269, 271, 273] (by decide +kernel) (by decide +kernel), tyX8_ok, nmX8, by decide +kernel⟩
theorem fp_RX8_33 : bk_fp RX8 33 7 4 .int false := ⟨_, _, _, _, ok_7, by decide, rfl, bk_in2 (List.mem_of_getElem? (i := 20) rfl) rfl, Or.inl rfl⟩
theorem fl_RX8_14 : bk_fl RX8 14 7 0 := ⟨_, _, _, _, ok_7, by decide, Or.inl (bk_in2 (List.mem_of_getElem? (i := 16) rfl) rfl)⟩
theorem ok_8 : bk_ok 8 RX9 TX9 5 tyX9 := ⟨rfl, bk_inL _ [245, 247, 249, 251, 253] (by decide +kernel) (by decide +kernel), tyX9_ok, nmX9, by decide +kernel⟩
theorem fl_RX8_74 : bk_fl RX8 74 8 3 := ⟨_, _, _, _, ok_8, by decide, Or.inl (bk_in2 (List.mem_of_getElem? (i := 2) rfl) rfl)⟩
theorem fp_RX8_36 : bk_fp RX8 36 7 5 .int false := ⟨_, _, _, _, ok_7, by decide, rfl, bk_in2 (List.mem_of_getElem? (i := 21) rfl) rfl, Or.inl rfl⟩
theorem fl_RX9_26 : bk_fl RX9 26 8 2 := ⟨_, _, _, _, ok_8, by decide, Or.inl (bk_in2 (List.mem_of_getElem? (i := 0) rfl) rfl)⟩
theorem fl_RX9_22 : bk_fl RX9 22 8 1 := ⟨_, _, _, _, ok_8, by decide, Or.inl (bk_in1 (List.mem_of_getElem? (i := 239) rfl) rfl)⟩
theorem fl_RX9_7 : bk_fl RX9 7 8 0 := ⟨_, _, _, _, ok_8, by decide, Or.inl (bk_in1 (List.mem_of_getElem? (i := 238) rfl) rfl)⟩
theorem lk_RX9_38 : bk_lk RX9 38 yX9_kindOf := Or.inl (bk_in3 (List.mem_of_getElem? (i := 179) rfl) rfl)
theorem mc_X9_kindOf : bk_mc yX9_kindOf cX9_kindOf 1 (some FieldType.int) 1 := ⟨bk_in3 (List.mem_of_getElem? (i := 181) rfl) rfl, bk_in1 (List.mem_of_getElem? (i := 10) rfl) rfl, by decide, by decide, by decide +kernel⟩
theorem st_X9_kindOf : Cond.static yX9_kindOf ∈ bk_GW := bk_in3 (List.mem_of_getElem? (i := 180) rfl) rfl
theorem fl_RX9_35 : bk_fl RX9 35 8 4 := ⟨_, _, _, _, ok_8, by decide, Or.inl (bk_in2 (List.mem_of_getElem? (i := 4) rfl) rfl)⟩
theorem fp_RX9_26 : bk_fp RX9 26 8 2 .int false := ⟨_, _, _, _, ok_8, by decide, rfl, bk_in2 (List.mem_of_getElem? (i := 0) rfl) rfl, Or.inl rfl⟩
theorem fl_RX9_32 : bk_fl RX9 32 8 3 := ⟨_, _, _, _, ok_8, by decide, Or.inl (bk_in2 (List.mem_of_getElem? (i := 1) rfl) rfl)⟩
theorem fp_RX9_35 : bk_fp RX9 35 8 4 .int false := ⟨_, _, _, _, ok_8, by decide, rfl, bk_in2 (List.mem_of_getElem? (i := 4) rfl) rfl, Or.inl rfl⟩
theorem fp_RX9_32 : bk_fp RX9 32 8 3 .int false := ⟨_, _, _, _, ok_8, by decide, rfl, bk_in2 (List.mem_of_getElem? (i := 1) rfl) rfl, Or.inl rfl⟩
theorem lk_RX8_45 : bk_lk RX8 45 yX9_isWord := Or.inl (bk_in3 (List.mem_of_getElem? (i := 183) rfl) rfl)
theorem mc_X9_isWord : bk_mc yX9_isWord cX9_isWord 3 (some FieldType.boolean) 1 := ⟨bk_in3 (List.mem_of_getElem? (i := 186) rfl) rfl, bk_in1 (List.mem_of_getElem? (i := 10) rfl) rfl, by decide, by decide, by decide +kernel⟩
theorem mv_X9_isWord : bk_mv yX9_isWord := ⟨bk_in3 (List.mem_of_getElem? (i := 184) rfl) rfl, bk_in3 (List.mem_of_getElem? (i := 185) rfl) rfl⟩
theorem fl_RX8_29 : bk_fl RX8 29 7 2 := ⟨_, _, _, _, ok_7, by decide, Or.inl (bk_in2 (List.mem_of_getElem? (i := 18) rfl) rfl)⟩
theorem fp_RX8_29 : bk_fp RX8 29 7 2 .int false := ⟨_, _, _, _, ok_7, by decide, rfl, bk_in2 (List.mem_of_getElem? (i := 18) rfl) rfl, Or.inl rfl⟩
theorem lk_RX8_49 : bk_lk RX8 49 yX9_step := Or.inl (bk_in3 (List.mem_of_getElem? (i := 235) rfl) rfl)
theorem mc_X9_step : bk_mc yX9_step cX9_step 1 (none : Option FieldType) 0 := ⟨bk_in3 (List.mem_of_getElem? (i := 178) rfl) rfl, bk_in1 (List.mem_of_getElem? (i := 10) rfl) rfl, by decide, by decide, by decide +kernel⟩
theorem mv_X9_step : bk_mv yX9_step := ⟨bk_in3 (List.mem_of_getElem? (i := 176) rfl) rfl, bk_in3 (List.mem_of_getElem? (i := 177) rfl) rfl⟩
theorem lk_RX8_71 : bk_lk RX8 71 yX8_refuse := Or.inl (bk_in4 (List.mem_of_getElem? (i := 9) rfl) rfl)
theorem mc_X8_refuse : bk_mc yX8_refuse cX8_refuse 2 (some FieldType.boolean) 1 := ⟨bk_in4 (List.mem_of_getElem? (i := 12) rfl) rfl, bk_in1 (List.mem_of_getElem? (i := 9) rfl) rfl, by decide, by decide, by decide +kernel⟩
theorem mv_X8_refuse : bk_mv yX8_refuse := ⟨bk_in4 (List.mem_of_getElem? (i := 11) rfl) rfl, bk_inP1 (List.mem_of_getElem? (i := 11) rfl) rfl⟩
theorem fl_RX8_60 : bk_fl RX8 60 8 4 := ⟨_, _, _, _, ok_8, by decide, Or.inl (bk_in2 (List.mem_of_getElem? (i := 3) rfl) rfl)⟩
theorem lk_RX8_212 : bk_lk RX8 212 yX9_isShort := Or.inl (bk_in4 (List.mem_of_getElem? (i := 13) rfl) rfl)
theorem mc_X9_isShort : bk_mc yX9_isShort cX9_isShort 1 (some FieldType.boolean) 0 := ⟨bk_in4 (List.mem_of_getElem? (i := 16) rfl) rfl, bk_in1 (List.mem_of_getElem? (i := 10) rfl) rfl, by decide, by decide, by decide +kernel⟩
theorem mv_X9_isShort : bk_mv yX9_isShort := ⟨bk_in4 (List.mem_of_getElem? (i := 14) rfl) rfl, bk_in4 (List.mem_of_getElem? (i := 15) rfl) rfl⟩
theorem lk_RX8_215 : bk_lk RX8 215 yX9_number := Or.inl (bk_in4 (List.mem_of_getElem? (i := 17) rfl) rfl)
theorem mc_X9_number : bk_mc yX9_number cX9_number 3 (some FieldType.int) 0 := ⟨bk_in4 (List.mem_of_getElem? (i := 20) rfl) rfl, bk_in1 (List.mem_of_getElem? (i := 10) rfl) rfl, by decide, by decide, by decide +kernel⟩
theorem mv_X9_number : bk_mv yX9_number := ⟨bk_in4 (List.mem_of_getElem? (i := 18) rfl) rfl, bk_in4 (List.mem_of_getElem? (i := 19) rfl) rfl⟩
theorem lk_RX8_218 : bk_lk RX8 218 yX11_isWithin := Or.inr ⟨"BucketTube", by decide +kernel⟩
theorem mc_X11_isWithin : bk_mc yX11_isWithin cX11_isWithin 3 (some FieldType.boolean) 3 := ⟨bk_in2 (List.mem_of_getElem? (i := 201) rfl) rfl, bk_in1 (List.mem_of_getElem? (i := 1) rfl) rfl, by decide, by decide, by decide +kernel⟩
theorem st_X11_isWithin : Cond.static yX11_isWithin ∈ bk_GW := bk_in2 (List.mem_of_getElem? (i := 200) rfl) rfl
theorem fp_RX8_147 : bk_fp RX8 147 7 3 .int false := ⟨_, _, _, _, ok_7, by decide, rfl, bk_in2 (List.mem_of_getElem? (i := 19) rfl) rfl, Or.inl rfl⟩
theorem lk_RX8_179 : bk_lk RX8 179 yX8_causeNamed := Or.inl (bk_in4 (List.mem_of_getElem? (i := 137) rfl) rfl)
theorem mc_X8_causeNamed : bk_mc yX8_causeNamed cX8_causeNamed 1 (some FieldType.int) 0 := ⟨bk_in4 (List.mem_of_getElem? (i := 140) rfl) rfl, bk_in1 (List.mem_of_getElem? (i := 9) rfl) rfl, by decide, by decide, by decide +kernel⟩
theorem mv_X8_causeNamed : bk_mv yX8_causeNamed := ⟨bk_in4 (List.mem_of_getElem? (i := 139) rfl) rfl, bk_inP2 (List.mem_of_getElem? (i := 13) rfl) rfl⟩
theorem lk_RX8_81 : bk_lk RX8 81 yX8_readOnce := Or.inl (bk_in4 (List.mem_of_getElem? (i := 44) rfl) rfl)
theorem mc_X8_readOnce : bk_mc yX8_readOnce cX8_readOnce 2 (some FieldType.boolean) 1 := ⟨bk_in4 (List.mem_of_getElem? (i := 47) rfl) rfl, bk_in1 (List.mem_of_getElem? (i := 9) rfl) rfl, by decide, by decide, by decide +kernel⟩
theorem mv_X8_readOnce : bk_mv yX8_readOnce := ⟨bk_in4 (List.mem_of_getElem? (i := 46) rfl) rfl, bk_inP1 (List.mem_of_getElem? (i := 15) rfl) rfl⟩
theorem lk_RX8_140 : bk_lk RX8 140 yX8_readNumber := Or.inl (bk_in4 (List.mem_of_getElem? (i := 5) rfl) rfl)
theorem mc_X8_readNumber : bk_mc yX8_readNumber cX8_readNumber 3 (some FieldType.boolean) 2 := ⟨bk_in4 (List.mem_of_getElem? (i := 8) rfl) rfl, bk_in1 (List.mem_of_getElem? (i := 9) rfl) rfl, by decide, by decide, by decide +kernel⟩
theorem mv_X8_readNumber : bk_mv yX8_readNumber := ⟨bk_in4 (List.mem_of_getElem? (i := 7) rfl) rfl, bk_inP1 (List.mem_of_getElem? (i := 10) rfl) rfl⟩
theorem fl_RX8_20 : bk_fl RX8 20 7 1 := ⟨_, _, _, _, ok_7, by decide, Or.inl (bk_in2 (List.mem_of_getElem? (i := 17) rfl) rfl)⟩
theorem fl_RX8_67 : bk_fl RX8 67 4 1 := ⟨_, _, _, _, ok_4, by decide, Or.inl (bk_in1 (List.mem_of_getElem? (i := 193) rfl) rfl)⟩
theorem fl_RX8_147 : bk_fl RX8 147 7 3 := ⟨_, _, _, _, ok_7, by decide, Or.inl (bk_in2 (List.mem_of_getElem? (i := 19) rfl) rfl)⟩
theorem fl_RX11_193 : bk_fl RX11 193 5 4 := ⟨_, _, _, _, ok_5, by decide, Or.inl (bk_in2 (List.mem_of_getElem? (i := 80) rfl) rfl)⟩
theorem lk_RX11_78 : bk_lk RX11 78 yX11_isWithin := Or.inl (bk_in2 (List.mem_of_getElem? (i := 199) rfl) rfl)
theorem lk_RX11_214 : bk_lk RX11 214 yX11_needElement := Or.inl (bk_in4 (List.mem_of_getElem? (i := 206) rfl) rfl)
theorem mc_X11_needElement : bk_mc yX11_needElement cX11_needElement 1 (none : Option FieldType) 1 := ⟨bk_in4 (List.mem_of_getElem? (i := 208) rfl) rfl, bk_in1 (List.mem_of_getElem? (i := 1) rfl) rfl, by decide, by decide, by decide +kernel⟩
theorem ml_RX11_214 : Cond.methodLink RX11 214 yX11_needElement ∈ bk_GW := bk_in4 (List.mem_of_getElem? (i := 206) rfl) rfl
theorem st_X11_needElement : Cond.static yX11_needElement ∈ bk_GW := bk_in4 (List.mem_of_getElem? (i := 207) rfl) rfl
theorem lk_RX11_261 : bk_lk RX11 261 yX11_needPlace := Or.inl (bk_in4 (List.mem_of_getElem? (i := 218) rfl) rfl)
theorem mc_X11_needPlace : bk_mc yX11_needPlace cX11_needPlace 2 (none : Option FieldType) 1 := ⟨bk_in4 (List.mem_of_getElem? (i := 221) rfl) rfl, bk_in1 (List.mem_of_getElem? (i := 1) rfl) rfl, by decide, by decide, by decide +kernel⟩
theorem ml_RX11_261 : Cond.methodLink RX11 261 yX11_needPlace ∈ bk_GW := bk_in4 (List.mem_of_getElem? (i := 218) rfl) rfl
theorem mv_X11_needPlace : bk_mv yX11_needPlace := ⟨bk_in4 (List.mem_of_getElem? (i := 220) rfl) rfl, bk_inP3 (List.mem_of_getElem? (i := 2) rfl) rfl⟩
theorem fl_RX12_100 : bk_fl RX12 100 11 67 := ⟨_, _, _, _, ok_11, by decide, Or.inl (bk_in6 (List.mem_of_getElem? (i := 181) rfl) rfl)⟩
theorem fl_RX12_84 : bk_fl RX12 84 11 62 := ⟨_, _, _, _, ok_11, by decide, Or.inl (bk_in6 (List.mem_of_getElem? (i := 176) rfl) rfl)⟩
theorem oi_RX1 : Cond.methodLink RX1 3 Lib.objectInit ∈ bk_GW := bk_in1 (List.mem_of_getElem? (i := 92) rfl) rfl
theorem oj : Cond.instanceMethod Lib.objectInit ∈ bk_GW := bk_in1 (List.mem_of_getElem? (i := 32) rfl) rfl
theorem ok_obj : Cond.code Lib.objectInit ⟨#[0xb1]⟩ 1 none ∈ bk_GW := bk_in1 (List.mem_of_getElem? (i := 33) rfl) rfl
theorem ac_2 : Cond.arrayClass (newarray.typeOf .int) ∈ bk_GW := bk_in1 (List.mem_of_getElem? (i := 80) rfl) rfl
theorem fp_RX1_9 : bk_fp RX1 9 0 0 (.array .int) true := ⟨_, _, _, _, ok_0, by decide, rfl, bk_in1 (List.mem_of_getElem? (i := 93) rfl) rfl, Or.inr ⟨rfl, rfl, rfl⟩⟩
theorem fp_RX1_15 : bk_fp RX1 15 0 1 (.array .int) true := ⟨_, _, _, _, ok_0, by decide, rfl, bk_in1 (List.mem_of_getElem? (i := 96) rfl) rfl, Or.inr ⟨rfl, rfl, rfl⟩⟩
theorem fp_RX1_18 : bk_fp RX1 18 0 2 (.array .int) true := ⟨_, _, _, _, ok_0, by decide, rfl, bk_in1 (List.mem_of_getElem? (i := 99) rfl) rfl, Or.inr ⟨rfl, rfl, rfl⟩⟩
theorem cl_RX11_397 : Cond.classLink RX11 397 (bk_exc 2) ∈ bk_GW := bk_in3 (List.mem_of_getElem? (i := 98) rfl) rfl
theorem in_exc2 : Cond.initialized (bk_exc 2) ∈ bk_GW := bk_in1 (List.mem_of_getElem? (i := 18) rfl) rfl
theorem tw0_401 : (bk_tx RX11 401 "java/lang/IllegalArgumentException").filter goodWord = [15, 600, 609, 612, 615, 617, 601, 602, 32, 33, 603, 608, 613, 633, 590, 634, 592, 635, 594, 604, 606, 596, 629, 630, 632, 596, 620, 623, 623, 624, 625, 626, 626, 627, 628, 629, 619, 579, 587, 588, 589, 591, 593, 595, 599, 598, 597].filterMap (fun i => tables_1[i]?) := by decide +kernel
theorem tw1_401 : ∀ w ∈ (bk_tx RX11 401 "java/lang/IllegalArgumentException").filter goodWord, w ∈ lw_tbl := by
  intro w hw
  rw [tw0_401] at hw
  obtain ⟨i, -, hi⟩ := List.mem_filterMap.mp hw
  exact List.mem_append_right _ (List.mem_of_getElem? hi)
theorem tw2_401 : ∀ w ∈ (bk_tx RX11 401 "java/lang/IllegalArgumentException").filter (fun w => !goodWord w), w ∈ bk_nest := by decide +kernel
theorem cx_2 : Cond.code (Bundle.initS (bk_exc 2)) prog_20_method_2_code 2 none ∈ bk_GW := bk_in3 (List.mem_of_getElem? (i := 141) rfl) rfl
theorem lx_2 : Cond.methodLink (bk_exc 2) 7 (Bundle.initS bk_R) ∈ bk_GW := bk_in3 (List.mem_of_getElem? (i := 142) rfl) rfl
theorem tw3_401_397 : ∀ w ∈ Cond.classLink RX11 397 "java/lang/IllegalArgumentException" :: Cond.initialized "java/lang/IllegalArgumentException" :: Cond.code (Bundle.initS "java/lang/IllegalArgumentException") prog_20_method_2_code 2 none :: Cond.methodLink "java/lang/IllegalArgumentException" 7 (Bundle.initS bk_R) :: bk_tx RX11 401 "java/lang/IllegalArgumentException", vx_ot w = true := by decide +kernel
theorem x0_2 : decode prog_20_method_2_code 0 = .ok (.aload_n 0, 1) := by decide +kernel
theorem x1_2 : decode prog_20_method_2_code 1 = .ok (.aload_n 1, 1) := by decide +kernel
theorem x2_2 : decode prog_20_method_2_code 2 = .ok (.invokespecial 7, 3) := by decide +kernel
theorem x5_2 : decode prog_20_method_2_code 5 = .ok (.return_, 1) := by decide +kernel
theorem fl_RX5_9 : bk_fl RX5 9 4 0 := ⟨_, _, _, _, ok_4, by decide, Or.inl (bk_in1 (List.mem_of_getElem? (i := 189) rfl) rfl)⟩
theorem ok_2 : bk_ok 2 RX3 TX3 7 tyX3 := ⟨rfl, bk_inL _ [64, 66, 68, 70, 72, 74, 76] (by decide +kernel) (by decide +kernel), tyX3_ok, nmX3, by decide +kernel⟩
theorem fl_RX3_29 : bk_fl RX3 29 2 4 := ⟨_, _, _, _, ok_2, by decide, Or.inl (bk_in1 (List.mem_of_getElem? (i := 60) rfl) rfl)⟩
theorem lk_RX3_45 : bk_lk RX3 45 yX5_inches := Or.inl (bk_in5 (List.mem_of_getElem? (i := 15) rfl) rfl)
theorem mc_X5_inches : bk_mc yX5_inches cX5_inches 1 (some FieldType.int) 0 := ⟨bk_in2 (List.mem_of_getElem? (i := 51) rfl) rfl, bk_in1 (List.mem_of_getElem? (i := 4) rfl) rfl, by decide, by decide, by decide +kernel⟩
theorem mv_X5_inches : bk_mv yX5_inches := ⟨bk_in2 (List.mem_of_getElem? (i := 49) rfl) rfl, bk_in2 (List.mem_of_getElem? (i := 50) rfl) rfl⟩
theorem fl_RX3_22 : bk_fl RX3 22 2 3 := ⟨_, _, _, _, ok_2, by decide, Or.inl (bk_in1 (List.mem_of_getElem? (i := 59) rfl) rfl)⟩
theorem lk_RX3_56 : bk_lk RX3 56 yX0_total := Or.inl (bk_in5 (List.mem_of_getElem? (i := 17) rfl) rfl)
theorem mc_X0_total : bk_mc yX0_total cX0_total 4 (some FieldType.long) 1 := ⟨bk_in4 (List.mem_of_getElem? (i := 231) rfl) rfl, bk_in1 (List.mem_of_getElem? (i := 12) rfl) rfl, by decide, by decide, by decide +kernel⟩
theorem st_X0_total : Cond.static yX0_total ∈ bk_GW := bk_in4 (List.mem_of_getElem? (i := 230) rfl) rfl
theorem fp_RX3_60 : bk_fp RX3 60 2 5 .int false := ⟨_, _, _, _, ok_2, by decide, rfl, bk_in1 (List.mem_of_getElem? (i := 61) rfl) rfl, Or.inl rfl⟩
theorem fp_RX3_25 : bk_fp RX3 25 2 6 .boolean false := ⟨_, _, _, _, ok_2, by decide, rfl, bk_in1 (List.mem_of_getElem? (i := 62) rfl) rfl, Or.inl rfl⟩
theorem fl_RX3_15 : bk_fl RX3 15 2 1 := ⟨_, _, _, _, ok_2, by decide, Or.inl (bk_in1 (List.mem_of_getElem? (i := 57) rfl) rfl)⟩
theorem fl_RX3_9 : bk_fl RX3 9 2 0 := ⟨_, _, _, _, ok_2, by decide, Or.inl (bk_in1 (List.mem_of_getElem? (i := 56) rfl) rfl)⟩
theorem lk_RX3_50 : bk_lk RX3 50 yX0_totalOfInch := Or.inl (bk_in5 (List.mem_of_getElem? (i := 16) rfl) rfl)
theorem mc_X0_totalOfInch : bk_mc yX0_totalOfInch cX0_totalOfInch 5 (some FieldType.long) 2 := ⟨bk_in3 (List.mem_of_getElem? (i := 78) rfl) rfl, bk_in1 (List.mem_of_getElem? (i := 12) rfl) rfl, by decide, by decide, by decide +kernel⟩
theorem st_X0_totalOfInch : Cond.static yX0_totalOfInch ∈ bk_GW := bk_in3 (List.mem_of_getElem? (i := 77) rfl) rfl
theorem fp_RX3_29 : bk_fp RX3 29 2 4 (.object "BucketTube$Shed") false := ⟨_, _, _, _, ok_2, by decide, rfl, bk_in1 (List.mem_of_getElem? (i := 60) rfl) rfl, Or.inl rfl⟩
theorem lk_RX3_33 : bk_lk RX3 33 yJ9_min_7cf53 := Or.inl (bk_in5 (List.mem_of_getElem? (i := 11) rfl) rfl)
theorem ay_RX3_39 : Cond.methodLink RX3 39 arraycopyName ∈ bk_GW := bk_in5 (List.mem_of_getElem? (i := 12) rfl) rfl
theorem ay_nat : Cond.native arraycopyName ∈ bk_GW := bk_in5 (List.mem_of_getElem? (i := 14) rfl) rfl
theorem ay_st : Cond.static arraycopyName ∈ bk_GW := bk_in5 (List.mem_of_getElem? (i := 13) rfl) rfl
theorem ay_in : Cond.initialized "java/lang/System" ∈ bk_GW := bk_in1 (List.mem_of_getElem? (i := 24) rfl) rfl
theorem fl_RX11_19 : bk_fl RX11 19 10 1 := ⟨_, _, _, _, ok_10, by decide, Or.inl (bk_in2 (List.mem_of_getElem? (i := 93) rfl) rfl)⟩
theorem fl_RX11_319 : bk_fl RX11 319 2 6 := ⟨_, _, _, _, ok_2, by decide, Or.inr ⟨"BucketTube", by decide +kernel⟩⟩
theorem lk_RX11_322 : bk_lk RX11 322 yX3_begin := Or.inl (bk_in5 (List.mem_of_getElem? (i := 7) rfl) rfl)
theorem mc_X3_begin : bk_mc yX3_begin cX3_begin 5 (none : Option FieldType) 2 := ⟨bk_in5 (List.mem_of_getElem? (i := 10) rfl) rfl, bk_in1 (List.mem_of_getElem? (i := 3) rfl) rfl, by decide, by decide, by decide +kernel⟩
theorem mv_X3_begin : bk_mv yX3_begin := ⟨bk_in5 (List.mem_of_getElem? (i := 8) rfl) rfl, bk_in5 (List.mem_of_getElem? (i := 9) rfl) rfl⟩
theorem lk_RX3_83 : bk_lk RX3 83 yX5_hand := Or.inl (bk_in5 (List.mem_of_getElem? (i := 31) rfl) rfl)
theorem mc_X5_hand : bk_mc yX5_hand cX5_hand 1 (some FieldType.int) 0 := ⟨bk_in3 (List.mem_of_getElem? (i := 21) rfl) rfl, bk_in1 (List.mem_of_getElem? (i := 4) rfl) rfl, by decide, by decide, by decide +kernel⟩
theorem mv_X5_hand : bk_mv yX5_hand := ⟨bk_in3 (List.mem_of_getElem? (i := 19) rfl) rfl, bk_in3 (List.mem_of_getElem? (i := 20) rfl) rfl⟩
theorem lk_RX5_68 : bk_lk RX5 68 yJ9_floorMod_7cf53 := Or.inl (bk_in3 (List.mem_of_getElem? (i := 26) rfl) rfl)
theorem mc_J9_floorMod_7cf53 : bk_mc yJ9_floorMod_7cf53 cJ9_floorMod_7cf53 3 (some FieldType.int) 2 := ⟨bk_in3 (List.mem_of_getElem? (i := 28) rfl) rfl, bk_in1 (List.mem_of_getElem? (i := 13) rfl) rfl, by decide, by decide, by decide +kernel⟩
theorem st_J9_floorMod_7cf53 : Cond.static yJ9_floorMod_7cf53 ∈ bk_GW := bk_in3 (List.mem_of_getElem? (i := 27) rfl) rfl
theorem kl_RX0_25 : Cond.constantLong RX0 25 100 ∈ bk_GW := bk_in3 (List.mem_of_getElem? (i := 36) rfl) rfl
theorem lk_RX3_86 : bk_lk RX3 86 yX5_round := Or.inl (bk_in5 (List.mem_of_getElem? (i := 36) rfl) rfl)
theorem mc_X5_round : bk_mc yX5_round cX5_round 2 (some FieldType.int) 1 := ⟨bk_in3 (List.mem_of_getElem? (i := 25) rfl) rfl, bk_in1 (List.mem_of_getElem? (i := 4) rfl) rfl, by decide, by decide, by decide +kernel⟩
theorem mv_X5_round : bk_mv yX5_round := ⟨bk_in3 (List.mem_of_getElem? (i := 23) rfl) rfl, bk_in3 (List.mem_of_getElem? (i := 24) rfl) rfl⟩
theorem lk_RX3_89 : bk_lk RX3 89 yX5_miss := Or.inl (bk_in5 (List.mem_of_getElem? (i := 37) rfl) rfl)
theorem mc_X5_miss : bk_mc yX5_miss cX5_miss 1 (some FieldType.int) 0 := ⟨bk_in3 (List.mem_of_getElem? (i := 32) rfl) rfl, bk_in1 (List.mem_of_getElem? (i := 4) rfl) rfl, by decide, by decide, by decide +kernel⟩
theorem mv_X5_miss : bk_mv yX5_miss := ⟨bk_in3 (List.mem_of_getElem? (i := 30) rfl) rfl, bk_in3 (List.mem_of_getElem? (i := 31) rfl) rfl⟩
theorem lk_RX3_92 : bk_lk RX3 92 yX0_lessenInch := Or.inl (bk_in5 (List.mem_of_getElem? (i := 38) rfl) rfl)
theorem mc_X0_lessenInch : bk_mc yX0_lessenInch cX0_lessenInch 8 (none : Option FieldType) 4 := ⟨bk_in3 (List.mem_of_getElem? (i := 35) rfl) rfl, bk_in1 (List.mem_of_getElem? (i := 12) rfl) rfl, by decide, by decide, by decide +kernel⟩
theorem st_X0_lessenInch : Cond.static yX0_lessenInch ∈ bk_GW := bk_in3 (List.mem_of_getElem? (i := 34) rfl) rfl
theorem fl_RX3_18 : bk_fl RX3 18 2 2 := ⟨_, _, _, _, ok_2, by decide, Or.inl (bk_in1 (List.mem_of_getElem? (i := 58) rfl) rfl)⟩
theorem lk_RX3_76 : bk_lk RX3 76 yX3_bestInch := Or.inl (bk_in5 (List.mem_of_getElem? (i := 27) rfl) rfl)
theorem mc_X3_bestInch : bk_mc yX3_bestInch cX3_bestInch 10 (some FieldType.int) 0 := ⟨bk_in5 (List.mem_of_getElem? (i := 30) rfl) rfl, bk_in1 (List.mem_of_getElem? (i := 3) rfl) rfl, by decide, by decide, by decide +kernel⟩
theorem mv_X3_bestInch : bk_mv yX3_bestInch := ⟨bk_in5 (List.mem_of_getElem? (i := 29) rfl) rfl, bk_inP3 (List.mem_of_getElem? (i := 5) rfl) rfl⟩
theorem lk_RX3_79 : bk_lk RX3 79 yX3_dipAt := Or.inl (bk_in5 (List.mem_of_getElem? (i := 32) rfl) rfl)
theorem mc_X3_dipAt : bk_mc yX3_dipAt cX3_dipAt 8 (some FieldType.long) 1 := ⟨bk_in5 (List.mem_of_getElem? (i := 35) rfl) rfl, bk_in1 (List.mem_of_getElem? (i := 3) rfl) rfl, by decide, by decide, by decide +kernel⟩
theorem mv_X3_dipAt : bk_mv yX3_dipAt := ⟨bk_in5 (List.mem_of_getElem? (i := 34) rfl) rfl, bk_inP3 (List.mem_of_getElem? (i := 6) rfl) rfl⟩
theorem fl_RX3_60 : bk_fl RX3 60 2 5 := ⟨_, _, _, _, ok_2, by decide, Or.inl (bk_in1 (List.mem_of_getElem? (i := 61) rfl) rfl)⟩
theorem lk_RX3_64 : bk_lk RX3 64 yX11_isWithin := Or.inr ⟨"BucketTube", by decide +kernel⟩
theorem lk_RX3_68 : bk_lk RX3 68 yX3_goOn := Or.inl (bk_in5 (List.mem_of_getElem? (i := 23) rfl) rfl)
theorem mc_X3_goOn : bk_mc yX3_goOn cX3_goOn 3 (none : Option FieldType) 1 := ⟨bk_in5 (List.mem_of_getElem? (i := 26) rfl) rfl, bk_in1 (List.mem_of_getElem? (i := 3) rfl) rfl, by decide, by decide, by decide +kernel⟩
theorem mv_X3_goOn : bk_mv yX3_goOn := ⟨bk_in5 (List.mem_of_getElem? (i := 25) rfl) rfl, bk_inP3 (List.mem_of_getElem? (i := 4) rfl) rfl⟩
theorem lk_RX5_79 : bk_lk RX5 79 yX5_hand := Or.inl (bk_in5 (List.mem_of_getElem? (i := 76) rfl) rfl)
theorem lk_RX5_71 : bk_lk RX5 71 yX5_inches := Or.inl (bk_in2 (List.mem_of_getElem? (i := 63) rfl) rfl)
theorem lk_RX5_75 : bk_lk RX5 75 yX5_round := Or.inl (bk_in5 (List.mem_of_getElem? (i := 81) rfl) rfl)
theorem kc_RX11_402 : Cond.constant RX11 402 1103515245 ∈ bk_GW := bk_in5 (List.mem_of_getElem? (i := 85) rfl) rfl
theorem fl_RX11_163 : bk_fl RX11 163 0 0 := ⟨_, _, _, _, ok_0, by decide, Or.inl (bk_in1 (List.mem_of_getElem? (i := 94) rfl) rfl)⟩
theorem lk_RX11_329 : bk_lk RX11 329 yX5_looksAt := Or.inl (bk_in5 (List.mem_of_getElem? (i := 77) rfl) rfl)
theorem mc_X5_looksAt : bk_mc yX5_looksAt cX5_looksAt 3 (some FieldType.boolean) 2 := ⟨bk_in5 (List.mem_of_getElem? (i := 80) rfl) rfl, bk_in1 (List.mem_of_getElem? (i := 4) rfl) rfl, by decide, by decide, by decide +kernel⟩
theorem mv_X5_looksAt : bk_mv yX5_looksAt := ⟨bk_in5 (List.mem_of_getElem? (i := 78) rfl) rfl, bk_in5 (List.mem_of_getElem? (i := 79) rfl) rfl⟩
theorem lk_RX11_333 : bk_lk RX11 333 yX11_grownSeed := Or.inl (bk_in5 (List.mem_of_getElem? (i := 82) rfl) rfl)
theorem mc_X11_grownSeed : bk_mc yX11_grownSeed cX11_grownSeed 1 (some FieldType.int) 1 := ⟨bk_in5 (List.mem_of_getElem? (i := 84) rfl) rfl, bk_in1 (List.mem_of_getElem? (i := 1) rfl) rfl, by decide, by decide, by decide +kernel⟩
theorem st_X11_grownSeed : Cond.static yX11_grownSeed ∈ bk_GW := bk_in5 (List.mem_of_getElem? (i := 83) rfl) rfl
theorem lk_RX11_336 : bk_lk RX11 336 yX11_drawOfHundred := Or.inl (bk_in5 (List.mem_of_getElem? (i := 86) rfl) rfl)
theorem mc_X11_drawOfHundred : bk_mc yX11_drawOfHundred cX11_drawOfHundred 1 (some FieldType.int) 1 := ⟨bk_in5 (List.mem_of_getElem? (i := 88) rfl) rfl, bk_in1 (List.mem_of_getElem? (i := 1) rfl) rfl, by decide, by decide, by decide +kernel⟩
theorem st_X11_drawOfHundred : Cond.static yX11_drawOfHundred ∈ bk_GW := bk_in5 (List.mem_of_getElem? (i := 87) rfl) rfl
theorem lk_RX11_235 : bk_lk RX11 235 yX5_miss := Or.inl (bk_in3 (List.mem_of_getElem? (i := 29) rfl) rfl)
theorem lk_RX11_326 : bk_lk RX11 326 yX5_sweptInch := Or.inl (bk_in5 (List.mem_of_getElem? (i := 72) rfl) rfl)
theorem mc_X5_sweptInch : bk_mc yX5_sweptInch cX5_sweptInch 6 (some FieldType.int) 2 := ⟨bk_in5 (List.mem_of_getElem? (i := 75) rfl) rfl, bk_in1 (List.mem_of_getElem? (i := 4) rfl) rfl, by decide, by decide, by decide +kernel⟩
theorem mv_X5_sweptInch : bk_mv yX5_sweptInch := ⟨bk_in5 (List.mem_of_getElem? (i := 73) rfl) rfl, bk_in5 (List.mem_of_getElem? (i := 74) rfl) rfl⟩
theorem lk_RX11_289 : bk_lk RX11 289 yX3_inchIn := Or.inl (bk_in5 (List.mem_of_getElem? (i := 18) rfl) rfl)
theorem mc_X3_inchIn : bk_mc yX3_inchIn cX3_inchIn 2 (some FieldType.int) 1 := ⟨bk_in5 (List.mem_of_getElem? (i := 21) rfl) rfl, bk_in1 (List.mem_of_getElem? (i := 3) rfl) rfl, by decide, by decide, by decide +kernel⟩
theorem mv_X3_inchIn : bk_mv yX3_inchIn := ⟨bk_in5 (List.mem_of_getElem? (i := 19) rfl) rfl, bk_in5 (List.mem_of_getElem? (i := 20) rfl) rfl⟩
theorem lk_RX11_286 : bk_lk RX11 286 yX11_setOut := Or.inl (bk_in5 (List.mem_of_getElem? (i := 3) rfl) rfl)
theorem mc_X11_setOut : bk_mc yX11_setOut cX11_setOut 1 (none : Option FieldType) 0 := ⟨bk_in5 (List.mem_of_getElem? (i := 6) rfl) rfl, bk_in1 (List.mem_of_getElem? (i := 1) rfl) rfl, by decide, by decide, by decide +kernel⟩
theorem mv_X11_setOut : bk_mv yX11_setOut := ⟨bk_in5 (List.mem_of_getElem? (i := 5) rfl) rfl, bk_inP3 (List.mem_of_getElem? (i := 3) rfl) rfl⟩
theorem lk_RX11_306 : bk_lk RX11 306 yX11_findBy := Or.inl (bk_in5 (List.mem_of_getElem? (i := 68) rfl) rfl)
theorem mc_X11_findBy : bk_mc yX11_findBy cX11_findBy 8 (some FieldType.int) 3 := ⟨bk_in5 (List.mem_of_getElem? (i := 71) rfl) rfl, bk_in1 (List.mem_of_getElem? (i := 1) rfl) rfl, by decide, by decide, by decide +kernel⟩
theorem mv_X11_findBy : bk_mv yX11_findBy := ⟨bk_in5 (List.mem_of_getElem? (i := 70) rfl) rfl, bk_inP3 (List.mem_of_getElem? (i := 7) rfl) rfl⟩
theorem lk_RX11_310 : bk_lk RX11 310 yX11_partOfFind := Or.inl (bk_in5 (List.mem_of_getElem? (i := 89) rfl) rfl)
theorem mc_X11_partOfFind : bk_mc yX11_partOfFind cX11_partOfFind 2 (some FieldType.int) 2 := ⟨bk_in5 (List.mem_of_getElem? (i := 91) rfl) rfl, bk_in1 (List.mem_of_getElem? (i := 1) rfl) rfl, by decide, by decide, by decide +kernel⟩
theorem st_X11_partOfFind : Cond.static yX11_partOfFind ∈ bk_GW := bk_in5 (List.mem_of_getElem? (i := 90) rfl) rfl
theorem lk_RX11_314 : bk_lk RX11 314 yJ9_max_7cf53 := Or.inl (bk_in5 (List.mem_of_getElem? (i := 160) rfl) rfl)
theorem lk_RX11_82 : bk_lk RX11 82 yX11_needArgument := Or.inl (bk_in3 (List.mem_of_getElem? (i := 95) rfl) rfl)
theorem mc_X11_needArgument : bk_mc yX11_needArgument cX11_needArgument 1 (none : Option FieldType) 1 := ⟨bk_in3 (List.mem_of_getElem? (i := 97) rfl) rfl, bk_in1 (List.mem_of_getElem? (i := 1) rfl) rfl, by decide, by decide, by decide +kernel⟩
theorem ml_RX11_82 : Cond.methodLink RX11 82 yX11_needArgument ∈ bk_GW := bk_in3 (List.mem_of_getElem? (i := 95) rfl) rfl
theorem st_X11_needArgument : Cond.static yX11_needArgument ∈ bk_GW := bk_in3 (List.mem_of_getElem? (i := 96) rfl) rfl
theorem lk_RX11_248 : bk_lk RX11 248 yX5_inches := Or.inl (bk_in3 (List.mem_of_getElem? (i := 10) rfl) rfl)
theorem lk_RX11_220 : bk_lk RX11 220 yX11_isInch := Or.inl (bk_in3 (List.mem_of_getElem? (i := 6) rfl) rfl)
theorem mc_X11_isInch : bk_mc yX11_isInch cX11_isInch 2 (some FieldType.boolean) 1 := ⟨bk_in3 (List.mem_of_getElem? (i := 9) rfl) rfl, bk_in1 (List.mem_of_getElem? (i := 1) rfl) rfl, by decide, by decide, by decide +kernel⟩
theorem mv_X11_isInch : bk_mv yX11_isInch := ⟨bk_in3 (List.mem_of_getElem? (i := 8) rfl) rfl, bk_inP1 (List.mem_of_getElem? (i := 5) rfl) rfl⟩
theorem lk_RX11_254 : bk_lk RX11 254 yX5_mark := Or.inl (bk_in3 (List.mem_of_getElem? (i := 56) rfl) rfl)
theorem mc_X5_mark : bk_mc yX5_mark cX5_mark 1 (some FieldType.int) 0 := ⟨bk_in3 (List.mem_of_getElem? (i := 59) rfl) rfl, bk_in1 (List.mem_of_getElem? (i := 4) rfl) rfl, by decide, by decide, by decide +kernel⟩
theorem mv_X5_mark : bk_mv yX5_mark := ⟨bk_in3 (List.mem_of_getElem? (i := 57) rfl) rfl, bk_in3 (List.mem_of_getElem? (i := 58) rfl) rfl⟩
theorem lk_RX11_231 : bk_lk RX11 231 yX5_round := Or.inl (bk_in3 (List.mem_of_getElem? (i := 22) rfl) rfl)
theorem lk_RX11_357 : bk_lk RX11 357 yJ9_min_7cf53 := Or.inl (bk_in2 (List.mem_of_getElem? (i := 212) rfl) rfl)
theorem fl_RX12_74 : bk_fl RX12 74 11 55 := ⟨_, _, _, _, ok_11, by decide, Or.inl (bk_in6 (List.mem_of_getElem? (i := 169) rfl) rfl)⟩
theorem fl_RX12_200 : bk_fl RX12 200 11 46 := ⟨_, _, _, _, ok_11, by decide, Or.inl (bk_in6 (List.mem_of_getElem? (i := 160) rfl) rfl)⟩
theorem fp_RX12_200 : bk_fp RX12 200 11 46 .int false := ⟨_, _, _, _, ok_11, by decide, rfl, bk_in6 (List.mem_of_getElem? (i := 160) rfl) rfl, Or.inl rfl⟩
theorem fl_RX12_203 : bk_fl RX12 203 11 47 := ⟨_, _, _, _, ok_11, by decide, Or.inl (bk_in6 (List.mem_of_getElem? (i := 161) rfl) rfl)⟩
theorem fl_RX12_77 : bk_fl RX12 77 11 56 := ⟨_, _, _, _, ok_11, by decide, Or.inl (bk_in6 (List.mem_of_getElem? (i := 170) rfl) rfl)⟩
theorem lk_RX12_206 : bk_lk RX12 206 yX12_isOpen := Or.inl (bk_in8 (List.mem_of_getElem? (i := 11) rfl) rfl)
theorem mc_X12_isOpen : bk_mc yX12_isOpen cX12_isOpen 1 (some FieldType.boolean) 1 := ⟨bk_in8 (List.mem_of_getElem? (i := 13) rfl) rfl, bk_in1 (List.mem_of_getElem? (i := 14) rfl) rfl, by decide, by decide, by decide +kernel⟩
theorem st_X12_isOpen : Cond.static yX12_isOpen ∈ bk_GW := bk_in8 (List.mem_of_getElem? (i := 12) rfl) rfl
theorem lk_RX12_209 : bk_lk RX12 209 yX12_strength := Or.inl (bk_in8 (List.mem_of_getElem? (i := 14) rfl) rfl)
theorem mc_X12_strength : bk_mc yX12_strength cX12_strength 1 (some FieldType.int) 1 := ⟨bk_in8 (List.mem_of_getElem? (i := 16) rfl) rfl, bk_in1 (List.mem_of_getElem? (i := 14) rfl) rfl, by decide, by decide, by decide +kernel⟩
theorem st_X12_strength : Cond.static yX12_strength ∈ bk_GW := bk_in8 (List.mem_of_getElem? (i := 15) rfl) rfl
theorem fp_RX12_203 : bk_fp RX12 203 11 47 .int false := ⟨_, _, _, _, ok_11, by decide, rfl, bk_in6 (List.mem_of_getElem? (i := 161) rfl) rfl, Or.inl rfl⟩
theorem lk_RX12_211 : bk_lk RX12 211 yX12_puts := Or.inl (bk_in7 (List.mem_of_getElem? (i := 239) rfl) rfl)
theorem mc_X12_puts : bk_mc yX12_puts cX12_puts 2 (none : Option FieldType) 1 := ⟨bk_in8 (List.mem_of_getElem? (i := 2) rfl) rfl, bk_in1 (List.mem_of_getElem? (i := 14) rfl) rfl, by decide, by decide, by decide +kernel⟩
theorem mv_X12_puts : bk_mv yX12_puts := ⟨bk_in8 (List.mem_of_getElem? (i := 1) rfl) rfl, bk_inP5 (List.mem_of_getElem? (i := 6) rfl) rfl⟩
theorem lk_RX8_222 : bk_lk RX8 222 yX9_isSign := Or.inl (bk_in4 (List.mem_of_getElem? (i := 26) rfl) rfl)
theorem mc_X9_isSign : bk_mc yX9_isSign cX9_isSign 2 (some FieldType.boolean) 1 := ⟨bk_in4 (List.mem_of_getElem? (i := 29) rfl) rfl, bk_in1 (List.mem_of_getElem? (i := 10) rfl) rfl, by decide, by decide, by decide +kernel⟩
theorem mv_X9_isSign : bk_mv yX9_isSign := ⟨bk_in4 (List.mem_of_getElem? (i := 27) rfl) rfl, bk_in4 (List.mem_of_getElem? (i := 28) rfl) rfl⟩
theorem fp_RX4_18 : bk_fp RX4 18 3 2 .int false := ⟨_, _, _, _, ok_3, by decide, rfl, bk_in1 (List.mem_of_getElem? (i := 173) rfl) rfl, Or.inl rfl⟩
theorem lk_RX4_22 : bk_lk RX4 22 yX4_put := Or.inl (bk_in4 (List.mem_of_getElem? (i := 102) rfl) rfl)
theorem mc_X4_put : bk_mc yX4_put cX4_put 2 (none : Option FieldType) 1 := ⟨bk_in4 (List.mem_of_getElem? (i := 105) rfl) rfl, bk_in1 (List.mem_of_getElem? (i := 8) rfl) rfl, by decide, by decide, by decide +kernel⟩
theorem mv_X4_put : bk_mv yX4_put := ⟨bk_in4 (List.mem_of_getElem? (i := 103) rfl) rfl, bk_in4 (List.mem_of_getElem? (i := 104) rfl) rfl⟩
theorem lk_RX8_263 : bk_lk RX8 263 yX4_putValue := Or.inl (bk_in4 (List.mem_of_getElem? (i := 98) rfl) rfl)
theorem mc_X4_putValue : bk_mc yX4_putValue cX4_putValue 2 (none : Option FieldType) 1 := ⟨bk_in4 (List.mem_of_getElem? (i := 101) rfl) rfl, bk_in1 (List.mem_of_getElem? (i := 8) rfl) rfl, by decide, by decide, by decide +kernel⟩
theorem mv_X4_putValue : bk_mv yX4_putValue := ⟨bk_in4 (List.mem_of_getElem? (i := 99) rfl) rfl, bk_in4 (List.mem_of_getElem? (i := 100) rfl) rfl⟩
theorem lk_RX8_235 : bk_lk RX8 235 yX4_put := Or.inl (bk_in4 (List.mem_of_getElem? (i := 106) rfl) rfl)
theorem fl_RX8_86 : bk_fl RX8 86 4 5 := ⟨_, _, _, _, ok_4, by decide, Or.inl (bk_in1 (List.mem_of_getElem? (i := 205) rfl) rfl)⟩
theorem lk_RX8_260 : bk_lk RX8 260 yX8_holdsValueNamed := Or.inl (bk_in4 (List.mem_of_getElem? (i := 90) rfl) rfl)
theorem mc_X8_holdsValueNamed : bk_mc yX8_holdsValueNamed cX8_holdsValueNamed 1 (some FieldType.int) 0 := ⟨bk_in4 (List.mem_of_getElem? (i := 93) rfl) rfl, bk_in1 (List.mem_of_getElem? (i := 9) rfl) rfl, by decide, by decide, by decide +kernel⟩
theorem mv_X8_holdsValueNamed : bk_mv yX8_holdsValueNamed := ⟨bk_in4 (List.mem_of_getElem? (i := 92) rfl) rfl, bk_inP2 (List.mem_of_getElem? (i := 9) rfl) rfl⟩
theorem lk_RX8_257 : bk_lk RX8 257 yX8_leakValueNamed := Or.inl (bk_in4 (List.mem_of_getElem? (i := 82) rfl) rfl)
theorem mc_X8_leakValueNamed : bk_mc yX8_leakValueNamed cX8_leakValueNamed 1 (some FieldType.int) 0 := ⟨bk_in4 (List.mem_of_getElem? (i := 85) rfl) rfl, bk_in1 (List.mem_of_getElem? (i := 9) rfl) rfl, by decide, by decide, by decide +kernel⟩
theorem mv_X8_leakValueNamed : bk_mv yX8_leakValueNamed := ⟨bk_in4 (List.mem_of_getElem? (i := 84) rfl) rfl, bk_inP2 (List.mem_of_getElem? (i := 8) rfl) rfl⟩
theorem lk_RX8_90 : bk_lk RX8 90 yX8_readExpr := Or.inl (bk_in4 (List.mem_of_getElem? (i := 49) rfl) rfl)
theorem mc_X8_readExpr : bk_mc yX8_readExpr cX8_readExpr 4 (some FieldType.boolean) 2 := ⟨bk_in4 (List.mem_of_getElem? (i := 52) rfl) rfl, bk_in1 (List.mem_of_getElem? (i := 9) rfl) rfl, by decide, by decide, by decide +kernel⟩
theorem mv_X8_readExpr : bk_mv yX8_readExpr := ⟨bk_in4 (List.mem_of_getElem? (i := 51) rfl) rfl, bk_inP2 (List.mem_of_getElem? (i := 0) rfl) rfl⟩
theorem lk_RX8_56 : bk_lk RX8 56 yX8_readSign := Or.inl (bk_in4 (List.mem_of_getElem? (i := 22) rfl) rfl)
theorem mc_X8_readSign : bk_mc yX8_readSign cX8_readSign 2 (some FieldType.boolean) 1 := ⟨bk_in4 (List.mem_of_getElem? (i := 25) rfl) rfl, bk_in1 (List.mem_of_getElem? (i := 9) rfl) rfl, by decide, by decide, by decide +kernel⟩
theorem mv_X8_readSign : bk_mv yX8_readSign := ⟨bk_in4 (List.mem_of_getElem? (i := 24) rfl) rfl, bk_inP1 (List.mem_of_getElem? (i := 12) rfl) rfl⟩
theorem lk_RX8_254 : bk_lk RX8 254 yX8_readPart := Or.inl (bk_in4 (List.mem_of_getElem? (i := 78) rfl) rfl)
theorem mc_X8_readPart : bk_mc yX8_readPart cX8_readPart 4 (some FieldType.boolean) 2 := ⟨bk_in4 (List.mem_of_getElem? (i := 81) rfl) rfl, bk_in1 (List.mem_of_getElem? (i := 9) rfl) rfl, by decide, by decide, by decide +kernel⟩
theorem mv_X8_readPart : bk_mv yX8_readPart := ⟨bk_in4 (List.mem_of_getElem? (i := 80) rfl) rfl, bk_inP2 (List.mem_of_getElem? (i := 7) rfl) rfl⟩
theorem lk_RX8_251 : bk_lk RX8 251 yX8_readProduct := Or.inl (bk_in4 (List.mem_of_getElem? (i := 74) rfl) rfl)
theorem mc_X8_readProduct : bk_mc yX8_readProduct cX8_readProduct 5 (some FieldType.boolean) 2 := ⟨bk_in4 (List.mem_of_getElem? (i := 77) rfl) rfl, bk_in1 (List.mem_of_getElem? (i := 9) rfl) rfl, by decide, by decide, by decide +kernel⟩
theorem mv_X8_readProduct : bk_mv yX8_readProduct := ⟨bk_in4 (List.mem_of_getElem? (i := 76) rfl) rfl, bk_inP2 (List.mem_of_getElem? (i := 6) rfl) rfl⟩
theorem lk_RX8_248 : bk_lk RX8 248 yX8_readSum := Or.inl (bk_in4 (List.mem_of_getElem? (i := 70) rfl) rfl)
theorem mc_X8_readSum : bk_mc yX8_readSum cX8_readSum 5 (some FieldType.boolean) 2 := ⟨bk_in4 (List.mem_of_getElem? (i := 73) rfl) rfl, bk_in1 (List.mem_of_getElem? (i := 9) rfl) rfl, by decide, by decide, by decide +kernel⟩
theorem mv_X8_readSum : bk_mv yX8_readSum := ⟨bk_in4 (List.mem_of_getElem? (i := 72) rfl) rfl, bk_inP2 (List.mem_of_getElem? (i := 5) rfl) rfl⟩
theorem lk_RX8_245 : bk_lk RX8 245 yX8_readTest := Or.inl (bk_in4 (List.mem_of_getElem? (i := 66) rfl) rfl)
theorem mc_X8_readTest : bk_mc yX8_readTest cX8_readTest 4 (some FieldType.boolean) 2 := ⟨bk_in4 (List.mem_of_getElem? (i := 69) rfl) rfl, bk_in1 (List.mem_of_getElem? (i := 9) rfl) rfl, by decide, by decide, by decide +kernel⟩
theorem mv_X8_readTest : bk_mv yX8_readTest := ⟨bk_in4 (List.mem_of_getElem? (i := 68) rfl) rfl, bk_inP2 (List.mem_of_getElem? (i := 4) rfl) rfl⟩
theorem lk_RX12_316 : bk_lk RX12 316 yX12_right := Or.inl (bk_in7 (List.mem_of_getElem? (i := 146) rfl) rfl)
theorem mc_X12_right : bk_mc yX12_right cX12_right 3 (some FieldType.boolean) 2 := ⟨bk_in7 (List.mem_of_getElem? (i := 149) rfl) rfl, bk_in1 (List.mem_of_getElem? (i := 14) rfl) rfl, by decide, by decide, by decide +kernel⟩
theorem mv_X12_right : bk_mv yX12_right := ⟨bk_in7 (List.mem_of_getElem? (i := 148) rfl) rfl, bk_inP4 (List.mem_of_getElem? (i := 2) rfl) rfl⟩
theorem fl_RX12_13 : bk_fl RX12 13 11 2 := ⟨_, _, _, _, ok_11, by decide, Or.inl (bk_in6 (List.mem_of_getElem? (i := 116) rfl) rfl)⟩
theorem fl_RX12_103 : bk_fl RX12 103 11 68 := ⟨_, _, _, _, ok_11, by decide, Or.inl (bk_in6 (List.mem_of_getElem? (i := 182) rfl) rfl)⟩
theorem fl_RX12_7 : bk_fl RX12 7 11 1 := ⟨_, _, _, _, ok_11, by decide, Or.inl (bk_in6 (List.mem_of_getElem? (i := 115) rfl) rfl)⟩
theorem kl_RX12_420 : Cond.constantLong RX12 420 (-1) ∈ bk_GW := bk_in8 (List.mem_of_getElem? (i := 177) rfl) rfl
theorem fl_RX12_368 : bk_fl RX12 368 11 60 := ⟨_, _, _, _, ok_11, by decide, Or.inl (bk_in6 (List.mem_of_getElem? (i := 174) rfl) rfl)⟩
theorem fl_RX12_37 : bk_fl RX12 37 11 14 := ⟨_, _, _, _, ok_11, by decide, Or.inl (bk_in6 (List.mem_of_getElem? (i := 128) rfl) rfl)⟩
theorem fl_RX12_455 : bk_fl RX12 455 11 71 := ⟨_, _, _, _, ok_11, by decide, Or.inl (bk_in6 (List.mem_of_getElem? (i := 185) rfl) rfl)⟩
theorem kc_RX12_458 : Cond.constant RX12 458 1103515245 ∈ bk_GW := bk_in8 (List.mem_of_getElem? (i := 219) rfl) rfl
theorem fp_RX12_455 : bk_fp RX12 455 11 71 .int false := ⟨_, _, _, _, ok_11, by decide, rfl, bk_in6 (List.mem_of_getElem? (i := 185) rfl) rfl, Or.inl rfl⟩
theorem fl_RX12_329 : bk_fl RX12 329 11 9 := ⟨_, _, _, _, ok_11, by decide, Or.inl (bk_in6 (List.mem_of_getElem? (i := 123) rfl) rfl)⟩
theorem fl_RX12_459 : bk_fl RX12 459 11 73 := ⟨_, _, _, _, ok_11, by decide, Or.inl (bk_in6 (List.mem_of_getElem? (i := 187) rfl) rfl)⟩
theorem lk_RX12_390 : bk_lk RX12 390 yX12_isLeaking := Or.inl (bk_in8 (List.mem_of_getElem? (i := 64) rfl) rfl)
theorem mc_X12_isLeaking : bk_mc yX12_isLeaking cX12_isLeaking 3 (some FieldType.boolean) 2 := ⟨bk_in8 (List.mem_of_getElem? (i := 67) rfl) rfl, bk_in1 (List.mem_of_getElem? (i := 14) rfl) rfl, by decide, by decide, by decide +kernel⟩
theorem mv_X12_isLeaking : bk_mv yX12_isLeaking := ⟨bk_in8 (List.mem_of_getElem? (i := 66) rfl) rfl, bk_inP5 (List.mem_of_getElem? (i := 15) rfl) rfl⟩
theorem lk_RX12_415 : bk_lk RX12 415 yX12_isLooked := Or.inl (bk_in8 (List.mem_of_getElem? (i := 131) rfl) rfl)
theorem mc_X12_isLooked : bk_mc yX12_isLooked cX12_isLooked 4 (some FieldType.boolean) 2 := ⟨bk_in8 (List.mem_of_getElem? (i := 134) rfl) rfl, bk_in1 (List.mem_of_getElem? (i := 14) rfl) rfl, by decide, by decide, by decide +kernel⟩
theorem mv_X12_isLooked : bk_mv yX12_isLooked := ⟨bk_in8 (List.mem_of_getElem? (i := 133) rfl) rfl, bk_inP6 (List.mem_of_getElem? (i := 8) rfl) rfl⟩
theorem lk_RX12_462 : bk_lk RX12 462 yX12_draw := Or.inl (bk_in8 (List.mem_of_getElem? (i := 215) rfl) rfl)
theorem mc_X12_draw : bk_mc yX12_draw cX12_draw 2 (some FieldType.int) 1 := ⟨bk_in8 (List.mem_of_getElem? (i := 218) rfl) rfl, bk_in1 (List.mem_of_getElem? (i := 14) rfl) rfl, by decide, by decide, by decide +kernel⟩
theorem mv_X12_draw : bk_mv yX12_draw := ⟨bk_in8 (List.mem_of_getElem? (i := 217) rfl) rfl, bk_inP6 (List.mem_of_getElem? (i := 14) rfl) rfl⟩
theorem fl_RX12_16 : bk_fl RX12 16 11 3 := ⟨_, _, _, _, ok_11, by decide, Or.inl (bk_in6 (List.mem_of_getElem? (i := 117) rfl) rfl)⟩
theorem fp_RX12_459 : bk_fp RX12 459 11 73 .int false := ⟨_, _, _, _, ok_11, by decide, rfl, bk_in6 (List.mem_of_getElem? (i := 187) rfl) rfl, Or.inl rfl⟩
theorem kl_RX12_418 : Cond.constantLong RX12 418 100 ∈ bk_GW := bk_in8 (List.mem_of_getElem? (i := 135) rfl) rfl
theorem fl_RX12_465 : bk_fl RX12 465 11 72 := ⟨_, _, _, _, ok_11, by decide, Or.inl (bk_in6 (List.mem_of_getElem? (i := 186) rfl) rfl)⟩
theorem fp_RX12_465 : bk_fp RX12 465 11 72 .int false := ⟨_, _, _, _, ok_11, by decide, rfl, bk_in6 (List.mem_of_getElem? (i := 186) rfl) rfl, Or.inl rfl⟩
theorem lk_RX12_449 : bk_lk RX12 449 yX12_nextOf := Or.inl (bk_in8 (List.mem_of_getElem? (i := 186) rfl) rfl)
theorem mc_X12_nextOf : bk_mc yX12_nextOf cX12_nextOf 9 (some FieldType.int) 1 := ⟨bk_in8 (List.mem_of_getElem? (i := 189) rfl) rfl, bk_in1 (List.mem_of_getElem? (i := 14) rfl) rfl, by decide, by decide, by decide +kernel⟩
theorem mv_X12_nextOf : bk_mv yX12_nextOf := ⟨bk_in8 (List.mem_of_getElem? (i := 188) rfl) rfl, bk_inP6 (List.mem_of_getElem? (i := 11) rfl) rfl⟩
theorem lk_RX12_468 : bk_lk RX12 468 yX12_shows := Or.inl (bk_in8 (List.mem_of_getElem? (i := 211) rfl) rfl)
theorem mc_X12_shows : bk_mc yX12_shows cX12_shows 4 (some FieldType.boolean) 2 := ⟨bk_in8 (List.mem_of_getElem? (i := 214) rfl) rfl, bk_in1 (List.mem_of_getElem? (i := 14) rfl) rfl, by decide, by decide, by decide +kernel⟩
theorem mv_X12_shows : bk_mv yX12_shows := ⟨bk_in8 (List.mem_of_getElem? (i := 213) rfl) rfl, bk_inP6 (List.mem_of_getElem? (i := 13) rfl) rfl⟩
theorem lk_RX12_425 : bk_lk RX12 425 yX12_dips := Or.inl (bk_in8 (List.mem_of_getElem? (i := 127) rfl) rfl)
theorem mc_X12_dips : bk_mc yX12_dips cX12_dips 4 (none : Option FieldType) 2 := ⟨bk_in8 (List.mem_of_getElem? (i := 130) rfl) rfl, bk_in1 (List.mem_of_getElem? (i := 14) rfl) rfl, by decide, by decide, by decide +kernel⟩
theorem mv_X12_dips : bk_mv yX12_dips := ⟨bk_in8 (List.mem_of_getElem? (i := 129) rfl) rfl, bk_inP6 (List.mem_of_getElem? (i := 7) rfl) rfl⟩
theorem lk_RX12_446 : bk_lk RX12 446 yX12_copiesWeights := Or.inl (bk_in8 (List.mem_of_getElem? (i := 182) rfl) rfl)
theorem mc_X12_copiesWeights : bk_mc yX12_copiesWeights cX12_copiesWeights 2 (none : Option FieldType) 0 := ⟨bk_in8 (List.mem_of_getElem? (i := 185) rfl) rfl, bk_in1 (List.mem_of_getElem? (i := 14) rfl) rfl, by decide, by decide, by decide +kernel⟩
theorem mv_X12_copiesWeights : bk_mv yX12_copiesWeights := ⟨bk_in8 (List.mem_of_getElem? (i := 184) rfl) rfl, bk_inP6 (List.mem_of_getElem? (i := 10) rfl) rfl⟩
theorem lk_RX12_364 : bk_lk RX12 364 yX12_isWhat := Or.inl (bk_in8 (List.mem_of_getElem? (i := 48) rfl) rfl)
theorem mc_X12_isWhat : bk_mc yX12_isWhat cX12_isWhat 3 (some FieldType.boolean) 2 := ⟨bk_in8 (List.mem_of_getElem? (i := 51) rfl) rfl, bk_in1 (List.mem_of_getElem? (i := 14) rfl) rfl, by decide, by decide, by decide +kernel⟩
theorem mv_X12_isWhat : bk_mv yX12_isWhat := ⟨bk_in8 (List.mem_of_getElem? (i := 50) rfl) rfl, bk_inP5 (List.mem_of_getElem? (i := 13) rfl) rfl⟩
theorem lk_RX12_471 : bk_lk RX12 471 yX12_seeksBy := Or.inl (bk_in8 (List.mem_of_getElem? (i := 207) rfl) rfl)
theorem mc_X12_seeksBy : bk_mc yX12_seeksBy cX12_seeksBy 4 (none : Option FieldType) 2 := ⟨bk_in8 (List.mem_of_getElem? (i := 210) rfl) rfl, bk_in1 (List.mem_of_getElem? (i := 14) rfl) rfl, by decide, by decide, by decide +kernel⟩
theorem mv_X12_seeksBy : bk_mv yX12_seeksBy := ⟨bk_in8 (List.mem_of_getElem? (i := 209) rfl) rfl, bk_inP6 (List.mem_of_getElem? (i := 12) rfl) rfl⟩
theorem fl_RX12_196 : bk_fl RX12 196 11 50 := ⟨_, _, _, _, ok_11, by decide, Or.inl (bk_in6 (List.mem_of_getElem? (i := 164) rfl) rfl)⟩
theorem fl_RX11_150 : bk_fl RX11 150 10 14 := ⟨_, _, _, _, ok_10, by decide, Or.inl (bk_in2 (List.mem_of_getElem? (i := 106) rfl) rfl)⟩
theorem fp_RX11_150 : bk_fp RX11 150 10 14 .int false := ⟨_, _, _, _, ok_10, by decide, rfl, bk_in2 (List.mem_of_getElem? (i := 106) rfl) rfl, Or.inl rfl⟩
theorem fl_RX12_97 : bk_fl RX12 97 11 66 := ⟨_, _, _, _, ok_11, by decide, Or.inl (bk_in6 (List.mem_of_getElem? (i := 180) rfl) rfl)⟩
theorem fl_RX12_94 : bk_fl RX12 94 11 65 := ⟨_, _, _, _, ok_11, by decide, Or.inl (bk_in6 (List.mem_of_getElem? (i := 179) rfl) rfl)⟩
theorem fl_RX12_50 : bk_fl RX12 50 11 18 := ⟨_, _, _, _, ok_11, by decide, Or.inl (bk_in6 (List.mem_of_getElem? (i := 132) rfl) rfl)⟩
theorem lk_RX12_379 : bk_lk RX12 379 yX12_works := Or.inl (bk_in8 (List.mem_of_getElem? (i := 84) rfl) rfl)
theorem mc_X12_works : bk_mc yX12_works cX12_works 3 (some FieldType.int) 3 := ⟨bk_in8 (List.mem_of_getElem? (i := 86) rfl) rfl, bk_in1 (List.mem_of_getElem? (i := 14) rfl) rfl, by decide, by decide, by decide +kernel⟩
theorem st_X12_works : Cond.static yX12_works ∈ bk_GW := bk_in8 (List.mem_of_getElem? (i := 85) rfl) rfl
theorem fl_RX12_31 : bk_fl RX12 31 11 12 := ⟨_, _, _, _, ok_11, by decide, Or.inl (bk_in6 (List.mem_of_getElem? (i := 126) rfl) rfl)⟩
theorem lk_RX12_387 : bk_lk RX12 387 yX12_reckons := Or.inl (bk_in8 (List.mem_of_getElem? (i := 80) rfl) rfl)
theorem mc_X12_reckons : bk_mc yX12_reckons cX12_reckons 5 (some FieldType.int) 1 := ⟨bk_in8 (List.mem_of_getElem? (i := 83) rfl) rfl, bk_in1 (List.mem_of_getElem? (i := 14) rfl) rfl, by decide, by decide, by decide +kernel⟩
theorem mv_X12_reckons : bk_mv yX12_reckons := ⟨bk_in8 (List.mem_of_getElem? (i := 82) rfl) rfl, bk_inP6 (List.mem_of_getElem? (i := 2) rfl) rfl⟩
theorem kc_RX12_383 : Cond.constant RX12 383 50000 ∈ bk_GW := bk_in8 (List.mem_of_getElem? (i := 76) rfl) rfl
theorem lk_RX12_384 : bk_lk RX12 384 yX12_kept := Or.inl (bk_in8 (List.mem_of_getElem? (i := 77) rfl) rfl)
theorem mc_X12_kept : bk_mc yX12_kept cX12_kept 2 (some FieldType.int) 2 := ⟨bk_in8 (List.mem_of_getElem? (i := 79) rfl) rfl, bk_in1 (List.mem_of_getElem? (i := 14) rfl) rfl, by decide, by decide, by decide +kernel⟩
theorem st_X12_kept : Cond.static yX12_kept ∈ bk_GW := bk_in8 (List.mem_of_getElem? (i := 78) rfl) rfl
theorem lk_RX12_394 : bk_lk RX12 394 yX12_leakOf := Or.inl (bk_in8 (List.mem_of_getElem? (i := 72) rfl) rfl)
theorem mc_X12_leakOf : bk_mc yX12_leakOf cX12_leakOf 6 (some FieldType.int) 4 := ⟨bk_in8 (List.mem_of_getElem? (i := 75) rfl) rfl, bk_in1 (List.mem_of_getElem? (i := 14) rfl) rfl, by decide, by decide, by decide +kernel⟩
theorem mv_X12_leakOf : bk_mv yX12_leakOf := ⟨bk_in8 (List.mem_of_getElem? (i := 74) rfl) rfl, bk_inP6 (List.mem_of_getElem? (i := 1) rfl) rfl⟩
theorem fl_RX12_355 : bk_fl RX12 355 11 59 := ⟨_, _, _, _, ok_11, by decide, Or.inl (bk_in6 (List.mem_of_getElem? (i := 173) rfl) rfl)⟩
theorem lk_RX12_402 : bk_lk RX12 402 yX12_goneBy := Or.inl (bk_in8 (List.mem_of_getElem? (i := 68) rfl) rfl)
theorem mc_X12_goneBy : bk_mc yX12_goneBy cX12_goneBy 7 (some FieldType.int) 4 := ⟨bk_in8 (List.mem_of_getElem? (i := 71) rfl) rfl, bk_in1 (List.mem_of_getElem? (i := 14) rfl) rfl, by decide, by decide, by decide +kernel⟩
theorem mv_X12_goneBy : bk_mv yX12_goneBy := ⟨bk_in8 (List.mem_of_getElem? (i := 70) rfl) rfl, bk_inP6 (List.mem_of_getElem? (i := 0) rfl) rfl⟩
theorem fl_RX12_352 : bk_fl RX12 352 11 58 := ⟨_, _, _, _, ok_11, by decide, Or.inl (bk_in6 (List.mem_of_getElem? (i := 172) rfl) rfl)⟩
theorem lk_RX12_398 : bk_lk RX12 398 yX12_leakers := Or.inl (bk_in8 (List.mem_of_getElem? (i := 60) rfl) rfl)
theorem mc_X12_leakers : bk_mc yX12_leakers cX12_leakers 4 (some FieldType.int) 1 := ⟨bk_in8 (List.mem_of_getElem? (i := 63) rfl) rfl, bk_in1 (List.mem_of_getElem? (i := 14) rfl) rfl, by decide, by decide, by decide +kernel⟩
theorem mv_X12_leakers : bk_mv yX12_leakers := ⟨bk_in8 (List.mem_of_getElem? (i := 62) rfl) rfl, bk_inP5 (List.mem_of_getElem? (i := 14) rfl) rfl⟩
theorem lk_RX12_411 : bk_lk RX12 411 yX12_flatBy := Or.inl (bk_in8 (List.mem_of_getElem? (i := 107) rfl) rfl)
theorem mc_X12_flatBy : bk_mc yX12_flatBy cX12_flatBy 5 (some FieldType.int) 2 := ⟨bk_in8 (List.mem_of_getElem? (i := 110) rfl) rfl, bk_in1 (List.mem_of_getElem? (i := 14) rfl) rfl, by decide, by decide, by decide +kernel⟩
theorem mv_X12_flatBy : bk_mv yX12_flatBy := ⟨bk_in8 (List.mem_of_getElem? (i := 109) rfl) rfl, bk_inP6 (List.mem_of_getElem? (i := 5) rfl) rfl⟩
theorem fl_RX5_86 : bk_fl RX5 86 0 0 := ⟨_, _, _, _, ok_0, by decide, Or.inl (bk_in1 (List.mem_of_getElem? (i := 95) rfl) rfl)⟩
theorem lk_RX5_107 : bk_lk RX5 107 yX5_inchesApart := Or.inl (bk_in5 (List.mem_of_getElem? (i := 130) rfl) rfl)
theorem mc_X5_inchesApart : bk_mc yX5_inchesApart cX5_inchesApart 4 (some FieldType.int) 2 := ⟨bk_in5 (List.mem_of_getElem? (i := 133) rfl) rfl, bk_in1 (List.mem_of_getElem? (i := 4) rfl) rfl, by decide, by decide, by decide +kernel⟩
theorem mv_X5_inchesApart : bk_mv yX5_inchesApart := ⟨bk_in5 (List.mem_of_getElem? (i := 132) rfl) rfl, bk_inP3 (List.mem_of_getElem? (i := 10) rfl) rfl⟩
theorem fl_RX5_46 : bk_fl RX5 46 4 6 := ⟨_, _, _, _, ok_4, by decide, Or.inl (bk_in1 (List.mem_of_getElem? (i := 206) rfl) rfl)⟩
theorem lk_RX5_138 : bk_lk RX5 138 yX5_holesNear := Or.inl (bk_in5 (List.mem_of_getElem? (i := 126) rfl) rfl)
theorem mc_X5_holesNear : bk_mc yX5_holesNear cX5_holesNear 4 (some FieldType.int) 1 := ⟨bk_in5 (List.mem_of_getElem? (i := 129) rfl) rfl, bk_in1 (List.mem_of_getElem? (i := 4) rfl) rfl, by decide, by decide, by decide +kernel⟩
theorem mv_X5_holesNear : bk_mv yX5_holesNear := ⟨bk_in5 (List.mem_of_getElem? (i := 128) rfl) rfl, bk_inP3 (List.mem_of_getElem? (i := 9) rfl) rfl⟩
theorem fl_RX8_144 : bk_fl RX8 144 4 0 := ⟨_, _, _, _, ok_4, by decide, Or.inl (bk_in1 (List.mem_of_getElem? (i := 191) rfl) rfl)⟩
theorem lk_RX8_131 : bk_lk RX8 131 yX5_inches := Or.inl (bk_in4 (List.mem_of_getElem? (i := 0) rfl) rfl)
theorem lk_RX8_238 : bk_lk RX8 238 yX8_readNot := Or.inl (bk_in4 (List.mem_of_getElem? (i := 61) rfl) rfl)
theorem mc_X8_readNot : bk_mc yX8_readNot cX8_readNot 5 (some FieldType.boolean) 2 := ⟨bk_in4 (List.mem_of_getElem? (i := 64) rfl) rfl, bk_in1 (List.mem_of_getElem? (i := 9) rfl) rfl, by decide, by decide, by decide +kernel⟩
theorem mv_X8_readNot : bk_mv yX8_readNot := ⟨bk_in4 (List.mem_of_getElem? (i := 63) rfl) rfl, bk_inP2 (List.mem_of_getElem? (i := 3) rfl) rfl⟩
theorem lk_RX8_228 : bk_lk RX8 228 yX8_readAnd := Or.inl (bk_in4 (List.mem_of_getElem? (i := 57) rfl) rfl)
theorem mc_X8_readAnd : bk_mc yX8_readAnd cX8_readAnd 4 (some FieldType.boolean) 2 := ⟨bk_in4 (List.mem_of_getElem? (i := 60) rfl) rfl, bk_in1 (List.mem_of_getElem? (i := 9) rfl) rfl, by decide, by decide, by decide +kernel⟩
theorem mv_X8_readAnd : bk_mv yX8_readAnd := ⟨bk_in4 (List.mem_of_getElem? (i := 59) rfl) rfl, bk_inP2 (List.mem_of_getElem? (i := 2) rfl) rfl⟩
theorem lk_RX8_225 : bk_lk RX8 225 yX8_mayBeginExpr := Or.inl (bk_in4 (List.mem_of_getElem? (i := 53) rfl) rfl)
theorem mc_X8_mayBeginExpr : bk_mc yX8_mayBeginExpr cX8_mayBeginExpr 1 (some FieldType.boolean) 0 := ⟨bk_in4 (List.mem_of_getElem? (i := 56) rfl) rfl, bk_in1 (List.mem_of_getElem? (i := 9) rfl) rfl, by decide, by decide, by decide +kernel⟩
theorem mv_X8_mayBeginExpr : bk_mv yX8_mayBeginExpr := ⟨bk_in4 (List.mem_of_getElem? (i := 55) rfl) rfl, bk_inP2 (List.mem_of_getElem? (i := 1) rfl) rfl⟩
theorem fl_RX1_21 : bk_fl RX1 21 0 4 := ⟨_, _, _, _, ok_0, by decide, Or.inl (bk_in1 (List.mem_of_getElem? (i := 103) rfl) rfl)⟩
theorem fl_RX1_9 : bk_fl RX1 9 0 0 := ⟨_, _, _, _, ok_0, by decide, Or.inl (bk_in1 (List.mem_of_getElem? (i := 93) rfl) rfl)⟩
theorem fl_RX1_15 : bk_fl RX1 15 0 1 := ⟨_, _, _, _, ok_0, by decide, Or.inl (bk_in1 (List.mem_of_getElem? (i := 96) rfl) rfl)⟩
theorem fp_RX1_25 : bk_fp RX1 25 0 3 .int false := ⟨_, _, _, _, ok_0, by decide, rfl, bk_in1 (List.mem_of_getElem? (i := 102) rfl) rfl, Or.inl rfl⟩
theorem fp_RX1_21 : bk_fp RX1 21 0 4 .int false := ⟨_, _, _, _, ok_0, by decide, rfl, bk_in1 (List.mem_of_getElem? (i := 103) rfl) rfl, Or.inl rfl⟩
theorem fl_RX1_18 : bk_fl RX1 18 0 2 := ⟨_, _, _, _, ok_0, by decide, Or.inl (bk_in1 (List.mem_of_getElem? (i := 99) rfl) rfl)⟩
theorem fl_RX8_150 : bk_fl RX8 150 4 2 := ⟨_, _, _, _, ok_4, by decide, Or.inl (bk_in1 (List.mem_of_getElem? (i := 197) rfl) rfl)⟩
theorem lk_RX8_167 : bk_lk RX8 167 yX1_add := Or.inl (bk_in4 (List.mem_of_getElem? (i := 128) rfl) rfl)
theorem mc_X1_add : bk_mc yX1_add cX1_add 5 (none : Option FieldType) 4 := ⟨bk_in4 (List.mem_of_getElem? (i := 131) rfl) rfl, bk_in1 (List.mem_of_getElem? (i := 5) rfl) rfl, by decide, by decide, by decide +kernel⟩
theorem mv_X1_add : bk_mv yX1_add := ⟨bk_in4 (List.mem_of_getElem? (i := 129) rfl) rfl, bk_in4 (List.mem_of_getElem? (i := 130) rfl) rfl⟩
theorem fl_RX8_154 : bk_fl RX8 154 0 4 := ⟨_, _, _, _, ok_0, by decide, Or.inl (bk_in1 (List.mem_of_getElem? (i := 106) rfl) rfl)⟩
theorem lk_RX8_159 : bk_lk RX8 159 yX8_sideNamed := Or.inl (bk_in4 (List.mem_of_getElem? (i := 115) rfl) rfl)
theorem mc_X8_sideNamed : bk_mc yX8_sideNamed cX8_sideNamed 1 (some FieldType.int) 0 := ⟨bk_in4 (List.mem_of_getElem? (i := 118) rfl) rfl, bk_in1 (List.mem_of_getElem? (i := 9) rfl) rfl, by decide, by decide, by decide +kernel⟩
theorem mv_X8_sideNamed : bk_mv yX8_sideNamed := ⟨bk_in4 (List.mem_of_getElem? (i := 117) rfl) rfl, bk_inP2 (List.mem_of_getElem? (i := 11) rfl) rfl⟩
theorem lk_RX8_162 : bk_lk RX8 162 yX1_isAt := Or.inl (bk_in4 (List.mem_of_getElem? (i := 123) rfl) rfl)
theorem mc_X1_isAt : bk_mc yX1_isAt cX1_isAt 4 (some FieldType.boolean) 2 := ⟨bk_in4 (List.mem_of_getElem? (i := 126) rfl) rfl, bk_in1 (List.mem_of_getElem? (i := 5) rfl) rfl, by decide, by decide, by decide +kernel⟩
theorem mv_X1_isAt : bk_mv yX1_isAt := ⟨bk_in4 (List.mem_of_getElem? (i := 124) rfl) rfl, bk_in4 (List.mem_of_getElem? (i := 125) rfl) rfl⟩
theorem ok_9 : bk_ok 9 RX10 TX10 3 tyX10 := ⟨rfl, bk_inL _ [132, 134, 136] (by decide +kernel) (by decide +kernel), tyX10_ok, nmX10, by decide +kernel⟩
theorem fl_RX10_18 : bk_fl RX10 18 9 2 := ⟨_, _, _, _, ok_9, by decide, Or.inl (bk_in1 (List.mem_of_getElem? (i := 128) rfl) rfl)⟩
theorem fl_RX10_9 : bk_fl RX10 9 9 0 := ⟨_, _, _, _, ok_9, by decide, Or.inl (bk_in1 (List.mem_of_getElem? (i := 124) rfl) rfl)⟩
theorem fl_RX10_15 : bk_fl RX10 15 9 1 := ⟨_, _, _, _, ok_9, by decide, Or.inl (bk_in1 (List.mem_of_getElem? (i := 126) rfl) rfl)⟩
theorem fp_RX10_18 : bk_fp RX10 18 9 2 .int false := ⟨_, _, _, _, ok_9, by decide, rfl, bk_in1 (List.mem_of_getElem? (i := 128) rfl) rfl, Or.inl rfl⟩
theorem fl_RX8_190 : bk_fl RX8 190 4 3 := ⟨_, _, _, _, ok_4, by decide, Or.inl (bk_in1 (List.mem_of_getElem? (i := 200) rfl) rfl)⟩
theorem fl_RX8_194 : bk_fl RX8 194 9 2 := ⟨_, _, _, _, ok_9, by decide, Or.inl (bk_in1 (List.mem_of_getElem? (i := 131) rfl) rfl)⟩
theorem lk_RX8_197 : bk_lk RX8 197 yX10_add := Or.inl (bk_in4 (List.mem_of_getElem? (i := 150) rfl) rfl)
theorem mc_X10_add : bk_mc yX10_add cX10_add 3 (none : Option FieldType) 2 := ⟨bk_in4 (List.mem_of_getElem? (i := 153) rfl) rfl, bk_in1 (List.mem_of_getElem? (i := 6) rfl) rfl, by decide, by decide, by decide +kernel⟩
theorem mv_X10_add : bk_mv yX10_add := ⟨bk_in4 (List.mem_of_getElem? (i := 151) rfl) rfl, bk_in4 (List.mem_of_getElem? (i := 152) rfl) rfl⟩
theorem ok_1 : bk_ok 1 RX2 TX2 5 tyX2 := ⟨rfl, bk_inL _ [153, 155, 157, 159, 161] (by decide +kernel) (by decide +kernel), tyX2_ok, nmX2, by decide +kernel⟩
theorem fl_RX2_25 : bk_fl RX2 25 1 4 := ⟨_, _, _, _, ok_1, by decide, Or.inl (bk_in1 (List.mem_of_getElem? (i := 149) rfl) rfl)⟩
theorem fl_RX2_9 : bk_fl RX2 9 1 0 := ⟨_, _, _, _, ok_1, by decide, Or.inl (bk_in1 (List.mem_of_getElem? (i := 145) rfl) rfl)⟩
theorem lk_RX2_29 : bk_lk RX2 29 yJ9_min_7cf53 := Or.inl (bk_in4 (List.mem_of_getElem? (i := 165) rfl) rfl)
theorem fl_RX2_15 : bk_fl RX2 15 1 1 := ⟨_, _, _, _, ok_1, by decide, Or.inl (bk_in1 (List.mem_of_getElem? (i := 146) rfl) rfl)⟩
theorem lk_RX2_35 : bk_lk RX2 35 yJ9_max_7cf53 := Or.inl (bk_in4 (List.mem_of_getElem? (i := 166) rfl) rfl)
theorem fl_RX2_18 : bk_fl RX2 18 1 2 := ⟨_, _, _, _, ok_1, by decide, Or.inl (bk_in1 (List.mem_of_getElem? (i := 147) rfl) rfl)⟩
theorem fl_RX2_21 : bk_fl RX2 21 1 3 := ⟨_, _, _, _, ok_1, by decide, Or.inl (bk_in1 (List.mem_of_getElem? (i := 148) rfl) rfl)⟩
theorem fp_RX2_25 : bk_fp RX2 25 1 4 .int false := ⟨_, _, _, _, ok_1, by decide, rfl, bk_in1 (List.mem_of_getElem? (i := 149) rfl) rfl, Or.inl rfl⟩
theorem fl_RX8_200 : bk_fl RX8 200 4 4 := ⟨_, _, _, _, ok_4, by decide, Or.inl (bk_in1 (List.mem_of_getElem? (i := 203) rfl) rfl)⟩
theorem lk_RX8_211 : bk_lk RX8 211 yX2_add := Or.inl (bk_in4 (List.mem_of_getElem? (i := 161) rfl) rfl)
theorem mc_X2_add : bk_mc yX2_add cX2_add 5 (none : Option FieldType) 4 := ⟨bk_in4 (List.mem_of_getElem? (i := 164) rfl) rfl, bk_in1 (List.mem_of_getElem? (i := 7) rfl) rfl, by decide, by decide, by decide +kernel⟩
theorem mv_X2_add : bk_mv yX2_add := ⟨bk_in4 (List.mem_of_getElem? (i := 162) rfl) rfl, bk_in4 (List.mem_of_getElem? (i := 163) rfl) rfl⟩
theorem fl_RX8_204 : bk_fl RX8 204 1 4 := ⟨_, _, _, _, ok_1, by decide, Or.inl (bk_in1 (List.mem_of_getElem? (i := 152) rfl) rfl)⟩
theorem lk_RX8_77 : bk_lk RX8 77 yX8_settingNamed := Or.inl (bk_in4 (List.mem_of_getElem? (i := 34) rfl) rfl)
theorem mc_X8_settingNamed : bk_mc yX8_settingNamed cX8_settingNamed 1 (some FieldType.int) 0 := ⟨bk_in4 (List.mem_of_getElem? (i := 37) rfl) rfl, bk_in1 (List.mem_of_getElem? (i := 9) rfl) rfl, by decide, by decide, by decide +kernel⟩
theorem mv_X8_settingNamed : bk_mv yX8_settingNamed := ⟨bk_in4 (List.mem_of_getElem? (i := 36) rfl) rfl, bk_inP1 (List.mem_of_getElem? (i := 14) rfl) rfl⟩
theorem lk_RX8_116 : bk_lk RX8 116 yX8_readRider := Or.inl (bk_in4 (List.mem_of_getElem? (i := 155) rfl) rfl)
theorem mc_X8_readRider : bk_mc yX8_readRider cX8_readRider 4 (some FieldType.boolean) 0 := ⟨bk_in4 (List.mem_of_getElem? (i := 158) rfl) rfl, bk_in1 (List.mem_of_getElem? (i := 9) rfl) rfl, by decide, by decide, by decide +kernel⟩
theorem mv_X8_readRider : bk_mv yX8_readRider := ⟨bk_in4 (List.mem_of_getElem? (i := 157) rfl) rfl, bk_inP2 (List.mem_of_getElem? (i := 15) rfl) rfl⟩
theorem lk_RX8_111 : bk_lk RX8 111 yX8_readTry := Or.inl (bk_in4 (List.mem_of_getElem? (i := 146) rfl) rfl)
theorem mc_X8_readTry : bk_mc yX8_readTry cX8_readTry 2 (some FieldType.boolean) 0 := ⟨bk_in4 (List.mem_of_getElem? (i := 149) rfl) rfl, bk_in1 (List.mem_of_getElem? (i := 9) rfl) rfl, by decide, by decide, by decide +kernel⟩
theorem mv_X8_readTry : bk_mv yX8_readTry := ⟨bk_in4 (List.mem_of_getElem? (i := 148) rfl) rfl, bk_inP2 (List.mem_of_getElem? (i := 14) rfl) rfl⟩
theorem lk_RX8_106 : bk_lk RX8 106 yX8_readCause := Or.inl (bk_in4 (List.mem_of_getElem? (i := 133) rfl) rfl)
theorem mc_X8_readCause : bk_mc yX8_readCause cX8_readCause 2 (some FieldType.boolean) 0 := ⟨bk_in4 (List.mem_of_getElem? (i := 136) rfl) rfl, bk_in1 (List.mem_of_getElem? (i := 9) rfl) rfl, by decide, by decide, by decide +kernel⟩
theorem mv_X8_readCause : bk_mv yX8_readCause := ⟨bk_in4 (List.mem_of_getElem? (i := 135) rfl) rfl, bk_inP2 (List.mem_of_getElem? (i := 12) rfl) rfl⟩
theorem lk_RX8_101 : bk_lk RX8 101 yX8_readHole := Or.inl (bk_in4 (List.mem_of_getElem? (i := 111) rfl) rfl)
theorem mc_X8_readHole : bk_mc yX8_readHole cX8_readHole 4 (some FieldType.boolean) 0 := ⟨bk_in4 (List.mem_of_getElem? (i := 114) rfl) rfl, bk_in1 (List.mem_of_getElem? (i := 9) rfl) rfl, by decide, by decide, by decide +kernel⟩
theorem mv_X8_readHole : bk_mv yX8_readHole := ⟨bk_in4 (List.mem_of_getElem? (i := 113) rfl) rfl, bk_inP2 (List.mem_of_getElem? (i := 10) rfl) rfl⟩
theorem fl_RX8_96 : bk_fl RX8 96 4 6 := ⟨_, _, _, _, ok_4, by decide, Or.inl (bk_in1 (List.mem_of_getElem? (i := 207) rfl) rfl)⟩
theorem lk_RX8_52 : bk_lk RX8 52 yX8_readSettings := Or.inl (bk_in3 (List.mem_of_getElem? (i := 236) rfl) rfl)
theorem mc_X8_readSettings : bk_mc yX8_readSettings cX8_readSettings 5 (some FieldType.boolean) 1 := ⟨bk_in3 (List.mem_of_getElem? (i := 239) rfl) rfl, bk_in1 (List.mem_of_getElem? (i := 9) rfl) rfl, by decide, by decide, by decide +kernel⟩
theorem mv_X8_readSettings : bk_mv yX8_readSettings := ⟨bk_in3 (List.mem_of_getElem? (i := 238) rfl) rfl, bk_inP1 (List.mem_of_getElem? (i := 9) rfl) rfl⟩
theorem fl_RX12_358 : bk_fl RX12 358 11 61 := ⟨_, _, _, _, ok_11, by decide, Or.inl (bk_in6 (List.mem_of_getElem? (i := 175) rfl) rfl)⟩
theorem fl_RX12_88 : bk_fl RX12 88 11 63 := ⟨_, _, _, _, ok_11, by decide, Or.inl (bk_in6 (List.mem_of_getElem? (i := 177) rfl) rfl)⟩
theorem fp_RX12_358 : bk_fp RX12 358 11 61 .int false := ⟨_, _, _, _, ok_11, by decide, rfl, bk_in6 (List.mem_of_getElem? (i := 175) rfl) rfl, Or.inl rfl⟩
theorem fl_RX12_91 : bk_fl RX12 91 11 64 := ⟨_, _, _, _, ok_11, by decide, Or.inl (bk_in6 (List.mem_of_getElem? (i := 178) rfl) rfl)⟩
theorem fp_RX12_352 : bk_fp RX12 352 11 58 .int false := ⟨_, _, _, _, ok_11, by decide, rfl, bk_in6 (List.mem_of_getElem? (i := 172) rfl) rfl, Or.inl rfl⟩
theorem fp_RX12_355 : bk_fp RX12 355 11 59 .int false := ⟨_, _, _, _, ok_11, by decide, rfl, bk_in6 (List.mem_of_getElem? (i := 173) rfl) rfl, Or.inl rfl⟩
theorem fp_RX12_368 : bk_fp RX12 368 11 60 .int false := ⟨_, _, _, _, ok_11, by decide, rfl, bk_in6 (List.mem_of_getElem? (i := 174) rfl) rfl, Or.inl rfl⟩
theorem fl_RX12_326 : bk_fl RX12 326 11 6 := ⟨_, _, _, _, ok_11, by decide, Or.inl (bk_in6 (List.mem_of_getElem? (i := 120) rfl) rfl)⟩
theorem lk_RX12_422 : bk_lk RX12 422 yX12_isInch := Or.inl (bk_in8 (List.mem_of_getElem? (i := 123) rfl) rfl)
theorem mc_X12_isInch : bk_mc yX12_isInch cX12_isInch 2 (some FieldType.boolean) 1 := ⟨bk_in8 (List.mem_of_getElem? (i := 126) rfl) rfl, bk_in1 (List.mem_of_getElem? (i := 14) rfl) rfl, by decide, by decide, by decide +kernel⟩
theorem mv_X12_isInch : bk_mv yX12_isInch := ⟨bk_in8 (List.mem_of_getElem? (i := 125) rfl) rfl, bk_inP6 (List.mem_of_getElem? (i := 6) rfl) rfl⟩
theorem lk_RX12_491 : bk_lk RX12 491 yX12_feels := Or.inl (bk_in9 (List.mem_of_getElem? (i := 31) rfl) rfl)
theorem mc_X12_feels : bk_mc yX12_feels cX12_feels 4 (some FieldType.int) 1 := ⟨bk_in9 (List.mem_of_getElem? (i := 34) rfl) rfl, bk_in1 (List.mem_of_getElem? (i := 14) rfl) rfl, by decide, by decide, by decide +kernel⟩
theorem mv_X12_feels : bk_mv yX12_feels := ⟨bk_in9 (List.mem_of_getElem? (i := 33) rfl) rfl, bk_inP7 (List.mem_of_getElem? (i := 3) rfl) rfl⟩
theorem fl_RX12_160 : bk_fl RX12 160 11 26 := ⟨_, _, _, _, ok_11, by decide, Or.inl (bk_in6 (List.mem_of_getElem? (i := 140) rfl) rfl)⟩
theorem fl_RX12_157 : bk_fl RX12 157 11 30 := ⟨_, _, _, _, ok_11, by decide, Or.inl (bk_in6 (List.mem_of_getElem? (i := 144) rfl) rfl)⟩
theorem fl_RX12_221 : bk_fl RX12 221 11 48 := ⟨_, _, _, _, ok_11, by decide, Or.inl (bk_in6 (List.mem_of_getElem? (i := 162) rfl) rfl)⟩
theorem lk_RX12_224 : bk_lk RX12 224 yX12_isSign := Or.inl (bk_in7 (List.mem_of_getElem? (i := 191) rfl) rfl)
theorem mc_X12_isSign : bk_mc yX12_isSign cX12_isSign 2 (some FieldType.boolean) 1 := ⟨bk_in7 (List.mem_of_getElem? (i := 194) rfl) rfl, bk_in1 (List.mem_of_getElem? (i := 14) rfl) rfl, by decide, by decide, by decide +kernel⟩
theorem mv_X12_isSign : bk_mv yX12_isSign := ⟨bk_in7 (List.mem_of_getElem? (i := 193) rfl) rfl, bk_inP4 (List.mem_of_getElem? (i := 10) rfl) rfl⟩
theorem fp_RX12_221 : bk_fp RX12 221 11 48 .int false := ⟨_, _, _, _, ok_11, by decide, rfl, bk_in6 (List.mem_of_getElem? (i := 162) rfl) rfl, Or.inl rfl⟩
theorem fl_RX12_80 : bk_fl RX12 80 11 57 := ⟨_, _, _, _, ok_11, by decide, Or.inl (bk_in6 (List.mem_of_getElem? (i := 171) rfl) rfl)⟩
theorem fl_RX12_130 : bk_fl RX12 130 11 20 := ⟨_, _, _, _, ok_11, by decide, Or.inl (bk_in6 (List.mem_of_getElem? (i := 134) rfl) rfl)⟩
theorem fp_RX12_130 : bk_fp RX12 130 11 20 .int false := ⟨_, _, _, _, ok_11, by decide, rfl, bk_in6 (List.mem_of_getElem? (i := 134) rfl) rfl, Or.inl rfl⟩
theorem oi_RX6 : Cond.methodLink RX6 1 Lib.objectInit ∈ bk_GW := bk_in2 (List.mem_of_getElem? (i := 70) rfl) rfl
theorem fp_RX6_7 : bk_fp RX6 7 5 0 (.object "BucketTube$State") true := ⟨_, _, _, _, ok_5, by decide, rfl, bk_in2 (List.mem_of_getElem? (i := 71) rfl) rfl, Or.inr ⟨rfl, rfl, rfl⟩⟩
theorem fp_RX6_13 : bk_fp RX6 13 5 1 .int true := ⟨_, _, _, _, ok_5, by decide, rfl, bk_in2 (List.mem_of_getElem? (i := 73) rfl) rfl, Or.inr ⟨rfl, rfl, rfl⟩⟩
theorem fp_RX6_17 : bk_fp RX6 17 5 2 .int true := ⟨_, _, _, _, ok_5, by decide, rfl, bk_in2 (List.mem_of_getElem? (i := 75) rfl) rfl, Or.inr ⟨rfl, rfl, rfl⟩⟩
theorem fp_RX6_20 : bk_fp RX6 20 5 3 .int true := ⟨_, _, _, _, ok_5, by decide, rfl, bk_in2 (List.mem_of_getElem? (i := 77) rfl) rfl, Or.inr ⟨rfl, rfl, rfl⟩⟩
theorem fp_RX6_23 : bk_fp RX6 23 5 4 (.array .long) true := ⟨_, _, _, _, ok_5, by decide, rfl, bk_in2 (List.mem_of_getElem? (i := 79) rfl) rfl, Or.inr ⟨rfl, rfl, rfl⟩⟩
theorem cl_RX11_58 : Cond.classLink RX11 58 RX6 ∈ bk_GW := bk_in2 (List.mem_of_getElem? (i := 210) rfl) rfl
theorem ib_RX6 : Cond.instantiable RX6 5 ∈ bk_GW := bk_in2 (List.mem_of_getElem? (i := 40) rfl) rfl
theorem in_RX6 : Cond.initialized RX6 ∈ bk_GW := bk_in1 (List.mem_of_getElem? (i := 11) rfl) rfl
theorem lk_RX11_392 : bk_lk RX11 392 yX6_init := Or.inl (bk_in2 (List.mem_of_getElem? (i := 211) rfl) rfl)
theorem mc_X6_init : bk_mc yX6_init cX6_init 6 (none : Option FieldType) 5 := ⟨bk_in2 (List.mem_of_getElem? (i := 69) rfl) rfl, bk_in1 (List.mem_of_getElem? (i := 11) rfl) rfl, by decide, by decide, by decide +kernel⟩
theorem im_X6_init : Cond.instanceMethod yX6_init ∈ bk_GW := bk_in2 (List.mem_of_getElem? (i := 68) rfl) rfl
theorem fp_RX11_63 : bk_fp RX11 63 10 7 (.object "BucketTube$State") false := ⟨_, _, _, _, ok_10, by decide, rfl, bk_in2 (List.mem_of_getElem? (i := 99) rfl) rfl, Or.inl rfl⟩
theorem fl_RX11_99 : bk_fl RX11 99 10 8 := ⟨_, _, _, _, ok_10, by decide, Or.inl (bk_in2 (List.mem_of_getElem? (i := 100) rfl) rfl)⟩
theorem fp_RX11_99 : bk_fp RX11 99 10 8 .int false := ⟨_, _, _, _, ok_10, by decide, rfl, bk_in2 (List.mem_of_getElem? (i := 100) rfl) rfl, Or.inl rfl⟩
theorem lk_RX11_197 : bk_lk RX11 197 yX11_keepAct := Or.inl (bk_in2 (List.mem_of_getElem? (i := 206) rfl) rfl)
theorem mc_X11_keepAct : bk_mc yX11_keepAct cX11_keepAct 5 (none : Option FieldType) 4 := ⟨bk_in2 (List.mem_of_getElem? (i := 209) rfl) rfl, bk_in1 (List.mem_of_getElem? (i := 1) rfl) rfl, by decide, by decide, by decide +kernel⟩
theorem mv_X11_keepAct : bk_mv yX11_keepAct := ⟨bk_in2 (List.mem_of_getElem? (i := 208) rfl) rfl, bk_inP1 (List.mem_of_getElem? (i := 3) rfl) rfl⟩
theorem lk_RX11_189 : bk_lk RX11 189 yX11_refuseAct := Or.inl (bk_in2 (List.mem_of_getElem? (i := 202) rfl) rfl)
theorem mc_X11_refuseAct : bk_mc yX11_refuseAct cX11_refuseAct 1 (some FieldType.int) 0 := ⟨bk_in2 (List.mem_of_getElem? (i := 205) rfl) rfl, bk_in1 (List.mem_of_getElem? (i := 1) rfl) rfl, by decide, by decide, by decide +kernel⟩
theorem mv_X11_refuseAct : bk_mv yX11_refuseAct := ⟨bk_in2 (List.mem_of_getElem? (i := 204) rfl) rfl, bk_inP1 (List.mem_of_getElem? (i := 2) rfl) rfl⟩
theorem lk_RX11_350 : bk_lk RX11 350 yX5_holdsBy := Or.inl (bk_in5 (List.mem_of_getElem? (i := 122) rfl) rfl)
theorem mc_X5_holdsBy : bk_mc yX5_holdsBy cX5_holdsBy 5 (some FieldType.int) 4 := ⟨bk_in5 (List.mem_of_getElem? (i := 125) rfl) rfl, bk_in1 (List.mem_of_getElem? (i := 4) rfl) rfl, by decide, by decide, by decide +kernel⟩
theorem mv_X5_holdsBy : bk_mv yX5_holdsBy := ⟨bk_in5 (List.mem_of_getElem? (i := 123) rfl) rfl, bk_in5 (List.mem_of_getElem? (i := 124) rfl) rfl⟩
theorem lk_RX11_160 : bk_lk RX11 160 yX11_needHole := Or.inl (bk_in4 (List.mem_of_getElem? (i := 202) rfl) rfl)
theorem mc_X11_needHole : bk_mc yX11_needHole cX11_needHole 2 (none : Option FieldType) 1 := ⟨bk_in4 (List.mem_of_getElem? (i := 205) rfl) rfl, bk_in1 (List.mem_of_getElem? (i := 1) rfl) rfl, by decide, by decide, by decide +kernel⟩
theorem ml_RX11_160 : Cond.methodLink RX11 160 yX11_needHole ∈ bk_GW := bk_in4 (List.mem_of_getElem? (i := 202) rfl) rfl
theorem lk_RX11_347 : bk_lk RX11 347 yX11_isHundred := Or.inl (bk_in5 (List.mem_of_getElem? (i := 119) rfl) rfl)
theorem mc_X11_isHundred : bk_mc yX11_isHundred cX11_isHundred 1 (some FieldType.boolean) 1 := ⟨bk_in5 (List.mem_of_getElem? (i := 121) rfl) rfl, bk_in1 (List.mem_of_getElem? (i := 1) rfl) rfl, by decide, by decide, by decide +kernel⟩
theorem st_X11_isHundred : Cond.static yX11_isHundred ∈ bk_GW := bk_in5 (List.mem_of_getElem? (i := 120) rfl) rfl
theorem mv_X11_needHole : bk_mv yX11_needHole := ⟨bk_in4 (List.mem_of_getElem? (i := 204) rfl) rfl, bk_inP3 (List.mem_of_getElem? (i := 1) rfl) rfl⟩
theorem fl_RX12_47 : bk_fl RX12 47 11 17 := ⟨_, _, _, _, ok_11, by decide, Or.inl (bk_in6 (List.mem_of_getElem? (i := 131) rfl) rfl)⟩
theorem fl_RX12_335 : bk_fl RX12 335 11 11 := ⟨_, _, _, _, ok_11, by decide, Or.inl (bk_in6 (List.mem_of_getElem? (i := 125) rfl) rfl)⟩
theorem lk_RX12_508 : bk_lk RX12 508 yX12_isTacked := Or.inl (bk_in9 (List.mem_of_getElem? (i := 84) rfl) rfl)
theorem mc_X12_isTacked : bk_mc yX12_isTacked cX12_isTacked 7 (some FieldType.boolean) 2 := ⟨bk_in9 (List.mem_of_getElem? (i := 87) rfl) rfl, bk_in1 (List.mem_of_getElem? (i := 14) rfl) rfl, by decide, by decide, by decide +kernel⟩
theorem mv_X12_isTacked : bk_mv yX12_isTacked := ⟨bk_in9 (List.mem_of_getElem? (i := 86) rfl) rfl, bk_inP7 (List.mem_of_getElem? (i := 8) rfl) rfl⟩
theorem lk_RX12_511 : bk_lk RX12 511 yX12_hoursOf := Or.inl (bk_in9 (List.mem_of_getElem? (i := 80) rfl) rfl)
theorem mc_X12_hoursOf : bk_mc yX12_hoursOf cX12_hoursOf 4 (some FieldType.int) 1 := ⟨bk_in9 (List.mem_of_getElem? (i := 83) rfl) rfl, bk_in1 (List.mem_of_getElem? (i := 14) rfl) rfl, by decide, by decide, by decide +kernel⟩
theorem mv_X12_hoursOf : bk_mv yX12_hoursOf := ⟨bk_in9 (List.mem_of_getElem? (i := 82) rfl) rfl, bk_inP7 (List.mem_of_getElem? (i := 7) rfl) rfl⟩
theorem fl_RX12_25 : bk_fl RX12 25 11 7 := ⟨_, _, _, _, ok_11, by decide, Or.inl (bk_in6 (List.mem_of_getElem? (i := 121) rfl) rfl)⟩
theorem kl_RX12_374 : Cond.constantLong RX12 374 1000000000 ∈ bk_GW := bk_in6 (List.mem_of_getElem? (i := 109) rfl) rfl
theorem kl_RX12_453 : Cond.constantLong RX12 453 1000 ∈ bk_GW := bk_in8 (List.mem_of_getElem? (i := 202) rfl) rfl
theorem fl_RX12_28 : bk_fl RX12 28 11 8 := ⟨_, _, _, _, ok_11, by decide, Or.inl (bk_in6 (List.mem_of_getElem? (i := 122) rfl) rfl)⟩
theorem lk_RX12_475 : bk_lk RX12 475 yX12_airBy := Or.inl (bk_in8 (List.mem_of_getElem? (i := 232) rfl) rfl)
theorem mc_X12_airBy : bk_mc yX12_airBy cX12_airBy 6 (some FieldType.int) 1 := ⟨bk_in8 (List.mem_of_getElem? (i := 235) rfl) rfl, bk_in1 (List.mem_of_getElem? (i := 14) rfl) rfl, by decide, by decide, by decide +kernel⟩
theorem mv_X12_airBy : bk_mv yX12_airBy := ⟨bk_in8 (List.mem_of_getElem? (i := 234) rfl) rfl, bk_inP6 (List.mem_of_getElem? (i := 15) rfl) rfl⟩
theorem lk_RX5_82 : bk_lk RX5 82 yX5_isFlank := Or.inl (bk_in2 (List.mem_of_getElem? (i := 55) rfl) rfl)
theorem mc_X5_isFlank : bk_mc yX5_isFlank cX5_isFlank 1 (some FieldType.boolean) 1 := ⟨bk_in2 (List.mem_of_getElem? (i := 57) rfl) rfl, bk_in1 (List.mem_of_getElem? (i := 4) rfl) rfl, by decide, by decide, by decide +kernel⟩
theorem st_X5_isFlank : Cond.static yX5_isFlank ∈ bk_GW := bk_in2 (List.mem_of_getElem? (i := 56) rfl) rfl
theorem fl_RX5_15 : bk_fl RX5 15 4 1 := ⟨_, _, _, _, ok_4, by decide, Or.inl (bk_in1 (List.mem_of_getElem? (i := 192) rfl) rfl)⟩
theorem lk_RX5_92 : bk_lk RX5 92 yX5_mayMake := Or.inl (bk_in5 (List.mem_of_getElem? (i := 179) rfl) rfl)
theorem mc_X5_mayMake : bk_mc yX5_mayMake cX5_mayMake 3 (some FieldType.boolean) 3 := ⟨bk_in2 (List.mem_of_getElem? (i := 54) rfl) rfl, bk_in1 (List.mem_of_getElem? (i := 4) rfl) rfl, by decide, by decide, by decide +kernel⟩
theorem st_X5_mayMake : Cond.static yX5_mayMake ∈ bk_GW := bk_in2 (List.mem_of_getElem? (i := 53) rfl) rfl
theorem kl_RX5_96 : Cond.constantLong RX5 96 1000000 ∈ bk_GW := bk_in5 (List.mem_of_getElem? (i := 180) rfl) rfl
theorem lk_RX5_98 : bk_lk RX5 98 yX5_shareOfCause := Or.inl (bk_in5 (List.mem_of_getElem? (i := 181) rfl) rfl)
theorem mc_X5_shareOfCause : bk_mc yX5_shareOfCause cX5_shareOfCause 5 (some FieldType.long) 2 := ⟨bk_in2 (List.mem_of_getElem? (i := 62) rfl) rfl, bk_in1 (List.mem_of_getElem? (i := 4) rfl) rfl, by decide, by decide, by decide +kernel⟩
theorem mv_X5_shareOfCause : bk_mv yX5_shareOfCause := ⟨bk_in2 (List.mem_of_getElem? (i := 60) rfl) rfl, bk_in2 (List.mem_of_getElem? (i := 61) rfl) rfl⟩
theorem lk_RX5_102 : bk_lk RX5 102 yX5_hasFlankBeside := Or.inl (bk_in5 (List.mem_of_getElem? (i := 182) rfl) rfl)
theorem mc_X5_hasFlankBeside : bk_mc yX5_hasFlankBeside cX5_hasFlankBeside 3 (some FieldType.boolean) 1 := ⟨bk_in5 (List.mem_of_getElem? (i := 185) rfl) rfl, bk_in1 (List.mem_of_getElem? (i := 4) rfl) rfl, by decide, by decide, by decide +kernel⟩
theorem mv_X5_hasFlankBeside : bk_mv yX5_hasFlankBeside := ⟨bk_in5 (List.mem_of_getElem? (i := 184) rfl) rfl, bk_inP3 (List.mem_of_getElem? (i := 11) rfl) rfl⟩
theorem kl_RX5_105 : Cond.constantLong RX5 105 10 ∈ bk_GW := bk_in5 (List.mem_of_getElem? (i := 186) rfl) rfl
theorem lk_RX5_135 : bk_lk RX5 135 yX5_goneBy := Or.inl (bk_in6 (List.mem_of_getElem? (i := 95) rfl) rfl)
theorem lk_RX5_132 : bk_lk RX5 132 yX5_fullPressure := Or.inl (bk_in6 (List.mem_of_getElem? (i := 94) rfl) rfl)
theorem mc_X5_fullPressure : bk_mc yX5_fullPressure cX5_fullPressure 1 (some FieldType.int) 0 := ⟨bk_in2 (List.mem_of_getElem? (i := 44) rfl) rfl, bk_in1 (List.mem_of_getElem? (i := 4) rfl) rfl, by decide, by decide, by decide +kernel⟩
theorem mv_X5_fullPressure : bk_mv yX5_fullPressure := ⟨bk_in2 (List.mem_of_getElem? (i := 42) rfl) rfl, bk_in2 (List.mem_of_getElem? (i := 43) rfl) rfl⟩
theorem kl_RX12_173 : Cond.constantLong RX12 173 96 ∈ bk_GW := bk_in7 (List.mem_of_getElem? (i := 178) rfl) rfl
theorem lk_RX5_141 : bk_lk RX5 141 yX5_holdsBy := Or.inl (bk_in5 (List.mem_of_getElem? (i := 145) rfl) rfl)
theorem lk_RX11_354 : bk_lk RX11 354 yX5_glueFor := Or.inl (bk_in5 (List.mem_of_getElem? (i := 141) rfl) rfl)
theorem mc_X5_glueFor : bk_mc yX5_glueFor cX5_glueFor 6 (some FieldType.int) 4 := ⟨bk_in5 (List.mem_of_getElem? (i := 144) rfl) rfl, bk_in1 (List.mem_of_getElem? (i := 4) rfl) rfl, by decide, by decide, by decide +kernel⟩
theorem mv_X5_glueFor : bk_mv yX5_glueFor := ⟨bk_in5 (List.mem_of_getElem? (i := 142) rfl) rfl, bk_in5 (List.mem_of_getElem? (i := 143) rfl) rfl⟩
theorem lk_RX0_15 : bk_lk RX0 15 yX5_mayMake := Or.inl (bk_in2 (List.mem_of_getElem? (i := 52) rfl) rfl)
theorem kl_RX0_19 : Cond.constantLong RX0 19 1000000000 ∈ bk_GW := bk_in2 (List.mem_of_getElem? (i := 58) rfl) rfl
theorem lk_RX0_21 : bk_lk RX0 21 yX5_shareOfCause := Or.inl (bk_in2 (List.mem_of_getElem? (i := 59) rfl) rfl)
theorem lk_RX0_9 : bk_lk RX0 9 yX5_inches := Or.inl (bk_in2 (List.mem_of_getElem? (i := 48) rfl) rfl)
theorem ac_3 : Cond.arrayClass (newarray.typeOf .long) ∈ bk_GW := bk_in1 (List.mem_of_getElem? (i := 79) rfl) rfl
theorem cl_RX6_8 : Cond.classLink RX6 8 RX6 ∈ bk_GW := bk_in2 (List.mem_of_getElem? (i := 39) rfl) rfl
theorem lk_RX6_27 : bk_lk RX6 27 yX5_fullPressure := Or.inl (bk_in2 (List.mem_of_getElem? (i := 41) rfl) rfl)
theorem lk_RX6_33 : bk_lk RX6 33 yX0_ofCauses := Or.inl (bk_in2 (List.mem_of_getElem? (i := 45) rfl) rfl)
theorem mc_X0_ofCauses : bk_mc yX0_ofCauses cX0_ofCauses 4 (some (FieldType.array FieldType.long)) 1 := ⟨bk_in2 (List.mem_of_getElem? (i := 47) rfl) rfl, bk_in1 (List.mem_of_getElem? (i := 12) rfl) rfl, by decide, by decide, by decide +kernel⟩
theorem st_X0_ofCauses : Cond.static yX0_ofCauses ∈ bk_GW := bk_in2 (List.mem_of_getElem? (i := 46) rfl) rfl
theorem lk_RX6_39 : bk_lk RX6 39 yX6_init := Or.inl (bk_in2 (List.mem_of_getElem? (i := 67) rfl) rfl)
theorem fl_RX11_37 : bk_fl RX11 37 10 6 := ⟨_, _, _, _, ok_10, by decide, Or.inl (bk_in2 (List.mem_of_getElem? (i := 98) rfl) rfl)⟩
theorem fp_RX11_37 : bk_fp RX11 37 10 6 (.object "BucketTube$Shed") false := ⟨_, _, _, _, ok_10, by decide, rfl, bk_in2 (List.mem_of_getElem? (i := 98) rfl) rfl, Or.inl rfl⟩
theorem fp_RX11_33 : bk_fp RX11 33 10 5 (.object "BucketTube$Shed") false := ⟨_, _, _, _, ok_10, by decide, rfl, bk_in2 (List.mem_of_getElem? (i := 97) rfl) rfl, Or.inl rfl⟩
theorem lk_RX11_57 : bk_lk RX11 57 yX6_ofNew := Or.inl (bk_in2 (List.mem_of_getElem? (i := 36) rfl) rfl)
theorem mc_X6_ofNew : bk_mc yX6_ofNew cX6_ofNew 1 (some (FieldType.object "BucketTube$State")) 1 := ⟨bk_in2 (List.mem_of_getElem? (i := 38) rfl) rfl, bk_in1 (List.mem_of_getElem? (i := 11) rfl) rfl, by decide, by decide, by decide +kernel⟩
theorem st_X6_ofNew : Cond.static yX6_ofNew ∈ bk_GW := bk_in2 (List.mem_of_getElem? (i := 37) rfl) rfl
theorem fp_RX11_102 : bk_fp RX11 102 10 9 (.object "BucketTube$State") false := ⟨_, _, _, _, ok_10, by decide, rfl, bk_in2 (List.mem_of_getElem? (i := 101) rfl) rfl, Or.inl rfl⟩
theorem fp_RX11_105 : bk_fp RX11 105 10 10 .int false := ⟨_, _, _, _, ok_10, by decide, rfl, bk_in2 (List.mem_of_getElem? (i := 102) rfl) rfl, Or.inl rfl⟩
theorem fp_RX11_108 : bk_fp RX11 108 10 11 .boolean false := ⟨_, _, _, _, ok_10, by decide, rfl, bk_in2 (List.mem_of_getElem? (i := 103) rfl) rfl, Or.inl rfl⟩
theorem lk_RX11_112 : bk_lk RX11 112 yX3_forget := Or.inl (bk_in2 (List.mem_of_getElem? (i := 222) rfl) rfl)
theorem mc_X3_forget : bk_mc yX3_forget cX3_forget 1 (none : Option FieldType) 0 := ⟨bk_in2 (List.mem_of_getElem? (i := 225) rfl) rfl, bk_in1 (List.mem_of_getElem? (i := 3) rfl) rfl, by decide, by decide, by decide +kernel⟩
theorem mv_X3_forget : bk_mv yX3_forget := ⟨bk_in2 (List.mem_of_getElem? (i := 223) rfl) rfl, bk_in2 (List.mem_of_getElem? (i := 224) rfl) rfl⟩
theorem fl_RX12_59 : bk_fl RX12 59 11 23 := ⟨_, _, _, _, ok_11, by decide, Or.inl (bk_in6 (List.mem_of_getElem? (i := 137) rfl) rfl)⟩
theorem lk_RX12_405 : bk_lk RX12 405 yX12_refuses := Or.inl (bk_in8 (List.mem_of_getElem? (i := 91) rfl) rfl)
theorem mc_X12_refuses : bk_mc yX12_refuses cX12_refuses 1 (some FieldType.int) 0 := ⟨bk_in8 (List.mem_of_getElem? (i := 94) rfl) rfl, bk_in1 (List.mem_of_getElem? (i := 14) rfl) rfl, by decide, by decide, by decide +kernel⟩
theorem mv_X12_refuses : bk_mv yX12_refuses := ⟨bk_in8 (List.mem_of_getElem? (i := 93) rfl) rfl, bk_inP6 (List.mem_of_getElem? (i := 3) rfl) rfl⟩
theorem fl_RX12_19 : bk_fl RX12 19 11 4 := ⟨_, _, _, _, ok_11, by decide, Or.inl (bk_in6 (List.mem_of_getElem? (i := 118) rfl) rfl)⟩
theorem lk_RX12_429 : bk_lk RX12 429 yX12_likeliest := Or.inl (bk_in8 (List.mem_of_getElem? (i := 136) rfl) rfl)
theorem mc_X12_likeliest : bk_mc yX12_likeliest cX12_likeliest 3 (some FieldType.int) 0 := ⟨bk_in8 (List.mem_of_getElem? (i := 139) rfl) rfl, bk_in1 (List.mem_of_getElem? (i := 14) rfl) rfl, by decide, by decide, by decide +kernel⟩
theorem mv_X12_likeliest : bk_mv yX12_likeliest := ⟨bk_in8 (List.mem_of_getElem? (i := 138) rfl) rfl, bk_inP6 (List.mem_of_getElem? (i := 9) rfl) rfl⟩
theorem lk_RX12_408 : bk_lk RX12 408 yX12_keeps := Or.inl (bk_in8 (List.mem_of_getElem? (i := 95) rfl) rfl)
theorem mc_X12_keeps : bk_mc yX12_keeps cX12_keeps 2 (none : Option FieldType) 0 := ⟨bk_in8 (List.mem_of_getElem? (i := 98) rfl) rfl, bk_in1 (List.mem_of_getElem? (i := 14) rfl) rfl, by decide, by decide, by decide +kernel⟩
theorem mv_X12_keeps : bk_mv yX12_keeps := ⟨bk_in8 (List.mem_of_getElem? (i := 97) rfl) rfl, bk_inP6 (List.mem_of_getElem? (i := 4) rfl) rfl⟩
theorem lk_RX11_211 : bk_lk RX11 211 yX1_all := Or.inl (bk_in6 (List.mem_of_getElem? (i := 72) rfl) rfl)
theorem mc_X1_all : bk_mc yX1_all cX1_all 1 (some FieldType.int) 0 := ⟨bk_in6 (List.mem_of_getElem? (i := 75) rfl) rfl, bk_in1 (List.mem_of_getElem? (i := 5) rfl) rfl, by decide, by decide, by decide +kernel⟩
theorem mv_X1_all : bk_mv yX1_all := ⟨bk_in6 (List.mem_of_getElem? (i := 73) rfl) rfl, bk_in6 (List.mem_of_getElem? (i := 74) rfl) rfl⟩
theorem fl_RX12_112 : bk_fl RX12 112 11 76 := ⟨_, _, _, _, ok_11, by decide, Or.inl (bk_in6 (List.mem_of_getElem? (i := 190) rfl) rfl)⟩
theorem fl_RX12_44 : bk_fl RX12 44 11 16 := ⟨_, _, _, _, ok_11, by decide, Or.inl (bk_in6 (List.mem_of_getElem? (i := 130) rfl) rfl)⟩
theorem fl_RX12_332 : bk_fl RX12 332 11 10 := ⟨_, _, _, _, ok_11, by decide, Or.inl (bk_in6 (List.mem_of_getElem? (i := 124) rfl) rfl)⟩
theorem lk_RX12_175 : bk_lk RX12 175 yX12_spelled := Or.inl (bk_in7 (List.mem_of_getElem? (i := 175) rfl) rfl)
theorem mc_X12_spelled : bk_mc yX12_spelled cX12_spelled 10 (some FieldType.long) 8 := ⟨bk_in7 (List.mem_of_getElem? (i := 177) rfl) rfl, bk_in1 (List.mem_of_getElem? (i := 14) rfl) rfl, by decide, by decide, by decide +kernel⟩
theorem st_X12_spelled : Cond.static yX12_spelled ∈ bk_GW := bk_in7 (List.mem_of_getElem? (i := 176) rfl) rfl
theorem fl_RX12_34 : bk_fl RX12 34 11 13 := ⟨_, _, _, _, ok_11, by decide, Or.inl (bk_in6 (List.mem_of_getElem? (i := 127) rfl) rfl)⟩
theorem lk_RX12_478 : bk_lk RX12 478 yX12_apart := Or.inl (bk_in9 (List.mem_of_getElem? (i := 11) rfl) rfl)
theorem mc_X12_apart : bk_mc yX12_apart cX12_apart 4 (some FieldType.int) 2 := ⟨bk_in9 (List.mem_of_getElem? (i := 14) rfl) rfl, bk_in1 (List.mem_of_getElem? (i := 14) rfl) rfl, by decide, by decide, by decide +kernel⟩
theorem mv_X12_apart : bk_mv yX12_apart := ⟨bk_in9 (List.mem_of_getElem? (i := 13) rfl) rfl, bk_inP7 (List.mem_of_getElem? (i := 1) rfl) rfl⟩
theorem lk_RX12_361 : bk_lk RX12 361 yX12_isHole := Or.inl (bk_in8 (List.mem_of_getElem? (i := 44) rfl) rfl)
theorem mc_X12_isHole : bk_mc yX12_isHole cX12_isHole 2 (some FieldType.boolean) 1 := ⟨bk_in8 (List.mem_of_getElem? (i := 47) rfl) rfl, bk_in1 (List.mem_of_getElem? (i := 14) rfl) rfl, by decide, by decide, by decide +kernel⟩
theorem mv_X12_isHole : bk_mv yX12_isHole := ⟨bk_in8 (List.mem_of_getElem? (i := 46) rfl) rfl, bk_inP5 (List.mem_of_getElem? (i := 12) rfl) rfl⟩
theorem lk_RX12_481 : bk_lk RX12 481 yX12_isPatch := Or.inl (bk_in9 (List.mem_of_getElem? (i := 4) rfl) rfl)
theorem mc_X12_isPatch : bk_mc yX12_isPatch cX12_isPatch 3 (some FieldType.boolean) 3 := ⟨bk_in9 (List.mem_of_getElem? (i := 6) rfl) rfl, bk_in1 (List.mem_of_getElem? (i := 14) rfl) rfl, by decide, by decide, by decide +kernel⟩
theorem st_X12_isPatch : Cond.static yX12_isPatch ∈ bk_GW := bk_in9 (List.mem_of_getElem? (i := 5) rfl) rfl
theorem lk_RX12_484 : bk_lk RX12 484 yX12_holdsOf := Or.inl (bk_in9 (List.mem_of_getElem? (i := 7) rfl) rfl)
theorem mc_X12_holdsOf : bk_mc yX12_holdsOf cX12_holdsOf 7 (some FieldType.int) 4 := ⟨bk_in9 (List.mem_of_getElem? (i := 10) rfl) rfl, bk_in1 (List.mem_of_getElem? (i := 14) rfl) rfl, by decide, by decide, by decide +kernel⟩
theorem mv_X12_holdsOf : bk_mv yX12_holdsOf := ⟨bk_in9 (List.mem_of_getElem? (i := 9) rfl) rfl, bk_inP7 (List.mem_of_getElem? (i := 0) rfl) rfl⟩
theorem lk_RX12_488 : bk_lk RX12 488 yX12_glueOf := Or.inl (bk_in9 (List.mem_of_getElem? (i := 19) rfl) rfl)
theorem mc_X12_glueOf : bk_mc yX12_glueOf cX12_glueOf 6 (some FieldType.int) 4 := ⟨bk_in9 (List.mem_of_getElem? (i := 22) rfl) rfl, bk_in1 (List.mem_of_getElem? (i := 14) rfl) rfl, by decide, by decide, by decide +kernel⟩
theorem mv_X12_glueOf : bk_mv yX12_glueOf := ⟨bk_in9 (List.mem_of_getElem? (i := 21) rfl) rfl, bk_inP7 (List.mem_of_getElem? (i := 2) rfl) rfl⟩
theorem kl_RX12_436 : Cond.constantLong RX12 436 10 ∈ bk_GW := bk_in8 (List.mem_of_getElem? (i := 150) rfl) rfl
theorem lk_RX12_438 : bk_lk RX12 438 yX12_together := Or.inl (bk_in8 (List.mem_of_getElem? (i := 159) rfl) rfl)
theorem mc_X12_together : bk_mc yX12_together cX12_together 4 (some FieldType.long) 1 := ⟨bk_in8 (List.mem_of_getElem? (i := 161) rfl) rfl, bk_in1 (List.mem_of_getElem? (i := 14) rfl) rfl, by decide, by decide, by decide +kernel⟩
theorem st_X12_together : Cond.static yX12_together ∈ bk_GW := bk_in8 (List.mem_of_getElem? (i := 160) rfl) rfl
theorem lk_RX12_442 : bk_lk RX12 442 yX12_thousandths := Or.inl (bk_in8 (List.mem_of_getElem? (i := 162) rfl) rfl)
theorem mc_X12_thousandths : bk_mc yX12_thousandths cX12_thousandths 8 (some FieldType.int) 2 := ⟨bk_in8 (List.mem_of_getElem? (i := 164) rfl) rfl, bk_in1 (List.mem_of_getElem? (i := 14) rfl) rfl, by decide, by decide, by decide +kernel⟩
theorem st_X12_thousandths : Cond.static yX12_thousandths ∈ bk_GW := bk_in8 (List.mem_of_getElem? (i := 163) rfl) rfl
theorem kl_RX11_403 : Cond.constantLong RX11 403 10 ∈ bk_GW := bk_in4 (List.mem_of_getElem? (i := 235) rfl) rfl
theorem fl_RX11_115 : bk_fl RX11 115 4 0 := ⟨_, _, _, _, ok_4, by decide, Or.inl (bk_in1 (List.mem_of_getElem? (i := 190) rfl) rfl)⟩
theorem kl_RX11_339 : Cond.constantLong RX11 339 1000000000 ∈ bk_GW := bk_in5 (List.mem_of_getElem? (i := 99) rfl) rfl
theorem lk_RX11_268 : bk_lk RX11 268 yX11_ofThousand := Or.inl (bk_in4 (List.mem_of_getElem? (i := 232) rfl) rfl)
theorem mc_X11_ofThousand : bk_mc yX11_ofThousand cX11_ofThousand 9 (some FieldType.int) 2 := ⟨bk_in4 (List.mem_of_getElem? (i := 234) rfl) rfl, bk_in1 (List.mem_of_getElem? (i := 1) rfl) rfl, by decide, by decide, by decide +kernel⟩
theorem st_X11_ofThousand : Cond.static yX11_ofThousand ∈ bk_GW := bk_in4 (List.mem_of_getElem? (i := 233) rfl) rfl
theorem lk_RX11_251 : bk_lk RX11 251 yX5_quarterOf := Or.inl (bk_in3 (List.mem_of_getElem? (i := 48) rfl) rfl)
theorem mc_X5_quarterOf : bk_mc yX5_quarterOf cX5_quarterOf 2 (some FieldType.int) 1 := ⟨bk_in3 (List.mem_of_getElem? (i := 51) rfl) rfl, bk_in1 (List.mem_of_getElem? (i := 4) rfl) rfl, by decide, by decide, by decide +kernel⟩
theorem mv_X5_quarterOf : bk_mv yX5_quarterOf := ⟨bk_in3 (List.mem_of_getElem? (i := 49) rfl) rfl, bk_in3 (List.mem_of_getElem? (i := 50) rfl) rfl⟩
theorem lk_RX11_272 : bk_lk RX11 272 yX0_totalOfInch := Or.inl (bk_in3 (List.mem_of_getElem? (i := 76) rfl) rfl)
theorem lk_RX12_179 : bk_lk RX12 179 yX12_letters := Or.inl (bk_in7 (List.mem_of_getElem? (i := 172) rfl) rfl)
theorem mc_X12_letters : bk_mc yX12_letters cX12_letters 1 (some FieldType.long) 1 := ⟨bk_in7 (List.mem_of_getElem? (i := 174) rfl) rfl, bk_in1 (List.mem_of_getElem? (i := 14) rfl) rfl, by decide, by decide, by decide +kernel⟩
theorem st_X12_letters : Cond.static yX12_letters ∈ bk_GW := bk_in7 (List.mem_of_getElem? (i := 173) rfl) rfl
theorem fl_RX12_170 : bk_fl RX12 170 11 28 := ⟨_, _, _, _, ok_11, by decide, Or.inl (bk_in6 (List.mem_of_getElem? (i := 142) rfl) rfl)⟩
theorem fl_RX12_252 : bk_fl RX12 252 11 40 := ⟨_, _, _, _, ok_11, by decide, Or.inl (bk_in6 (List.mem_of_getElem? (i := 154) rfl) rfl)⟩
theorem fp_RX12_252 : bk_fp RX12 252 11 40 .int false := ⟨_, _, _, _, ok_11, by decide, rfl, bk_in6 (List.mem_of_getElem? (i := 154) rfl) rfl, Or.inl rfl⟩
theorem lk_RX12_262 : bk_lk RX12 262 yX12_need := Or.inl (bk_in7 (List.mem_of_getElem? (i := 195) rfl) rfl)
theorem mc_X12_need : bk_mc yX12_need cX12_need 2 (none : Option FieldType) 1 := ⟨bk_in7 (List.mem_of_getElem? (i := 198) rfl) rfl, bk_in1 (List.mem_of_getElem? (i := 14) rfl) rfl, by decide, by decide, by decide +kernel⟩
theorem mv_X12_need : bk_mv yX12_need := ⟨bk_in7 (List.mem_of_getElem? (i := 197) rfl) rfl, bk_inP4 (List.mem_of_getElem? (i := 11) rfl) rfl⟩
theorem fl_RX12_62 : bk_fl RX12 62 11 51 := ⟨_, _, _, _, ok_11, by decide, Or.inl (bk_in6 (List.mem_of_getElem? (i := 165) rfl) rfl)⟩
theorem lk_RX12_258 : bk_lk RX12 258 yX12_number := Or.inl (bk_in7 (List.mem_of_getElem? (i := 179) rfl) rfl)
theorem mc_X12_number : bk_mc yX12_number cX12_number 4 (some FieldType.int) 2 := ⟨bk_in7 (List.mem_of_getElem? (i := 182) rfl) rfl, bk_in1 (List.mem_of_getElem? (i := 14) rfl) rfl, by decide, by decide, by decide +kernel⟩
theorem mv_X12_number : bk_mv yX12_number := ⟨bk_in7 (List.mem_of_getElem? (i := 181) rfl) rfl, bk_inP4 (List.mem_of_getElem? (i := 7) rfl) rfl⟩
theorem lk_RX12_214 : bk_lk RX12 214 yX12_knownWord := Or.inl (bk_in7 (List.mem_of_getElem? (i := 168) rfl) rfl)
theorem mc_X12_knownWord : bk_mc yX12_knownWord cX12_knownWord 2 (some FieldType.int) 0 := ⟨bk_in7 (List.mem_of_getElem? (i := 171) rfl) rfl, bk_in1 (List.mem_of_getElem? (i := 14) rfl) rfl, by decide, by decide, by decide +kernel⟩
theorem mv_X12_knownWord : bk_mv yX12_knownWord := ⟨bk_in7 (List.mem_of_getElem? (i := 170) rfl) rfl, bk_inP4 (List.mem_of_getElem? (i := 6) rfl) rfl⟩
theorem fl_RX12_255 : bk_fl RX12 255 11 32 := ⟨_, _, _, _, ok_11, by decide, Or.inl (bk_in6 (List.mem_of_getElem? (i := 146) rfl) rfl)⟩
theorem fl_RX12_249 : bk_fl RX12 249 11 49 := ⟨_, _, _, _, ok_11, by decide, Or.inl (bk_in6 (List.mem_of_getElem? (i := 163) rfl) rfl)⟩
theorem fp_RX12_249 : bk_fp RX12 249 11 49 .long false := ⟨_, _, _, _, ok_11, by decide, rfl, bk_in6 (List.mem_of_getElem? (i := 163) rfl) rfl, Or.inl rfl⟩
theorem fl_RX12_265 : bk_fl RX12 265 11 45 := ⟨_, _, _, _, ok_11, by decide, Or.inl (bk_in6 (List.mem_of_getElem? (i := 159) rfl) rfl)⟩
theorem fp_RX12_265 : bk_fp RX12 265 11 45 .int false := ⟨_, _, _, _, ok_11, by decide, rfl, bk_in6 (List.mem_of_getElem? (i := 159) rfl) rfl, Or.inl rfl⟩
theorem fl_RX12_65 : bk_fl RX12 65 11 52 := ⟨_, _, _, _, ok_11, by decide, Or.inl (bk_in6 (List.mem_of_getElem? (i := 166) rfl) rfl)⟩
theorem fl_RX12_268 : bk_fl RX12 268 11 42 := ⟨_, _, _, _, ok_11, by decide, Or.inl (bk_in6 (List.mem_of_getElem? (i := 156) rfl) rfl)⟩
theorem fp_RX12_268 : bk_fp RX12 268 11 42 .int false := ⟨_, _, _, _, ok_11, by decide, rfl, bk_in6 (List.mem_of_getElem? (i := 156) rfl) rfl, Or.inl rfl⟩
theorem fl_RX12_71 : bk_fl RX12 71 11 54 := ⟨_, _, _, _, ok_11, by decide, Or.inl (bk_in6 (List.mem_of_getElem? (i := 168) rfl) rfl)⟩
theorem lk_RX12_218 : bk_lk RX12 218 yX12_isValue := Or.inl (bk_in8 (List.mem_of_getElem? (i := 3) rfl) rfl)
theorem mc_X12_isValue : bk_mc yX12_isValue cX12_isValue 2 (some FieldType.boolean) 1 := ⟨bk_in8 (List.mem_of_getElem? (i := 6) rfl) rfl, bk_in1 (List.mem_of_getElem? (i := 14) rfl) rfl, by decide, by decide, by decide +kernel⟩
theorem mv_X12_isValue : bk_mv yX12_isValue := ⟨bk_in8 (List.mem_of_getElem? (i := 5) rfl) rfl, bk_inP5 (List.mem_of_getElem? (i := 7) rfl) rfl⟩
theorem lk_RX12_233 : bk_lk RX12 233 yX12_part := Or.inl (bk_in7 (List.mem_of_getElem? (i := 235) rfl) rfl)
theorem mc_X12_part : bk_mc yX12_part cX12_part 2 (none : Option FieldType) 0 := ⟨bk_in7 (List.mem_of_getElem? (i := 238) rfl) rfl, bk_in1 (List.mem_of_getElem? (i := 14) rfl) rfl, by decide, by decide, by decide +kernel⟩
theorem mv_X12_part : bk_mv yX12_part := ⟨bk_in7 (List.mem_of_getElem? (i := 237) rfl) rfl, bk_inP5 (List.mem_of_getElem? (i := 5) rfl) rfl⟩
theorem lk_RX12_227 : bk_lk RX12 227 yX12_waitsFor := Or.inl (bk_in7 (List.mem_of_getElem? (i := 231) rfl) rfl)
theorem mc_X12_waitsFor : bk_mc yX12_waitsFor cX12_waitsFor 2 (none : Option FieldType) 1 := ⟨bk_in7 (List.mem_of_getElem? (i := 234) rfl) rfl, bk_in1 (List.mem_of_getElem? (i := 14) rfl) rfl, by decide, by decide, by decide +kernel⟩
theorem mv_X12_waitsFor : bk_mv yX12_waitsFor := ⟨bk_in7 (List.mem_of_getElem? (i := 233) rfl) rfl, bk_inP5 (List.mem_of_getElem? (i := 4) rfl) rfl⟩
theorem lk_RX12_230 : bk_lk RX12 230 yX12_deeper := Or.inl (bk_in7 (List.mem_of_getElem? (i := 223) rfl) rfl)
theorem mc_X12_deeper : bk_mc yX12_deeper cX12_deeper 1 (none : Option FieldType) 0 := ⟨bk_in7 (List.mem_of_getElem? (i := 226) rfl) rfl, bk_in1 (List.mem_of_getElem? (i := 14) rfl) rfl, by decide, by decide, by decide +kernel⟩
theorem mv_X12_deeper : bk_mv yX12_deeper := ⟨bk_in7 (List.mem_of_getElem? (i := 225) rfl) rfl, bk_inP5 (List.mem_of_getElem? (i := 2) rfl) rfl⟩
theorem lk_RX12_236 : bk_lk RX12 236 yX12_drops := Or.inl (bk_in8 (List.mem_of_getElem? (i := 7) rfl) rfl)
theorem mc_X12_drops : bk_mc yX12_drops cX12_drops 2 (none : Option FieldType) 1 := ⟨bk_in8 (List.mem_of_getElem? (i := 10) rfl) rfl, bk_in1 (List.mem_of_getElem? (i := 14) rfl) rfl, by decide, by decide, by decide +kernel⟩
theorem mv_X12_drops : bk_mv yX12_drops := ⟨bk_in8 (List.mem_of_getElem? (i := 9) rfl) rfl, bk_inP5 (List.mem_of_getElem? (i := 8) rfl) rfl⟩
theorem lk_RX12_239 : bk_lk RX12 239 yX12_operand := Or.inl (bk_in7 (List.mem_of_getElem? (i := 227) rfl) rfl)
theorem mc_X12_operand : bk_mc yX12_operand cX12_operand 5 (none : Option FieldType) 1 := ⟨bk_in7 (List.mem_of_getElem? (i := 230) rfl) rfl, bk_in1 (List.mem_of_getElem? (i := 14) rfl) rfl, by decide, by decide, by decide +kernel⟩
theorem mv_X12_operand : bk_mv yX12_operand := ⟨bk_in7 (List.mem_of_getElem? (i := 229) rfl) rfl, bk_inP5 (List.mem_of_getElem? (i := 3) rfl) rfl⟩
theorem lk_RX12_243 : bk_lk RX12 243 yX12_isOpened := Or.inl (bk_in8 (List.mem_of_getElem? (i := 17) rfl) rfl)
theorem mc_X12_isOpened : bk_mc yX12_isOpened cX12_isOpened 2 (some FieldType.boolean) 0 := ⟨bk_in8 (List.mem_of_getElem? (i := 20) rfl) rfl, bk_in1 (List.mem_of_getElem? (i := 14) rfl) rfl, by decide, by decide, by decide +kernel⟩
theorem mv_X12_isOpened : bk_mv yX12_isOpened := ⟨bk_in8 (List.mem_of_getElem? (i := 19) rfl) rfl, bk_inP5 (List.mem_of_getElem? (i := 9) rfl) rfl⟩
theorem lk_RX12_246 : bk_lk RX12 246 yX12_closes := Or.inl (bk_in8 (List.mem_of_getElem? (i := 21) rfl) rfl)
theorem mc_X12_closes : bk_mc yX12_closes cX12_closes 1 (none : Option FieldType) 0 := ⟨bk_in8 (List.mem_of_getElem? (i := 24) rfl) rfl, bk_in1 (List.mem_of_getElem? (i := 14) rfl) rfl, by decide, by decide, by decide +kernel⟩
theorem mv_X12_closes : bk_mv yX12_closes := ⟨bk_in8 (List.mem_of_getElem? (i := 23) rfl) rfl, bk_inP5 (List.mem_of_getElem? (i := 10) rfl) rfl⟩
theorem fl_RX12_68 : bk_fl RX12 68 11 53 := ⟨_, _, _, _, ok_11, by decide, Or.inl (bk_in6 (List.mem_of_getElem? (i := 167) rfl) rfl)⟩
theorem fl_RX12_301 : bk_fl RX12 301 11 41 := ⟨_, _, _, _, ok_11, by decide, Or.inl (bk_in6 (List.mem_of_getElem? (i := 155) rfl) rfl)⟩
theorem fp_RX12_301 : bk_fp RX12 301 11 41 .int false := ⟨_, _, _, _, ok_11, by decide, rfl, bk_in6 (List.mem_of_getElem? (i := 155) rfl) rfl, Or.inl rfl⟩
theorem lk_RX12_313 : bk_lk RX12 313 yX12_expression := Or.inl (bk_in7 (List.mem_of_getElem? (i := 219) rfl) rfl)
theorem mc_X12_expression : bk_mc yX12_expression cX12_expression 3 (none : Option FieldType) 0 := ⟨bk_in7 (List.mem_of_getElem? (i := 222) rfl) rfl, bk_in1 (List.mem_of_getElem? (i := 14) rfl) rfl, by decide, by decide, by decide +kernel⟩
theorem mv_X12_expression : bk_mv yX12_expression := ⟨bk_in7 (List.mem_of_getElem? (i := 221) rfl) rfl, bk_inP5 (List.mem_of_getElem? (i := 1) rfl) rfl⟩
theorem fp_RX12_196 : bk_fp RX12 196 11 50 .boolean false := ⟨_, _, _, _, ok_11, by decide, rfl, bk_in6 (List.mem_of_getElem? (i := 164) rfl) rfl, Or.inl rfl⟩
theorem fp_RX12_310 : bk_fp RX12 310 11 43 .int false := ⟨_, _, _, _, ok_11, by decide, rfl, bk_in6 (List.mem_of_getElem? (i := 157) rfl) rfl, Or.inl rfl⟩
theorem fp_RX12_307 : bk_fp RX12 307 11 44 .int false := ⟨_, _, _, _, ok_11, by decide, rfl, bk_in6 (List.mem_of_getElem? (i := 158) rfl) rfl, Or.inl rfl⟩
theorem lk_RX12_274 : bk_lk RX12 274 yX12_begins := Or.inl (bk_in7 (List.mem_of_getElem? (i := 207) rfl) rfl)
theorem mc_X12_begins : bk_mc yX12_begins cX12_begins 2 (some FieldType.boolean) 1 := ⟨bk_in7 (List.mem_of_getElem? (i := 210) rfl) rfl, bk_in1 (List.mem_of_getElem? (i := 14) rfl) rfl, by decide, by decide, by decide +kernel⟩
theorem mv_X12_begins : bk_mv yX12_begins := ⟨bk_in7 (List.mem_of_getElem? (i := 209) rfl) rfl, bk_inP4 (List.mem_of_getElem? (i := 14) rfl) rfl⟩
theorem lk_RX12_304 : bk_lk RX12 304 yX12_readsRider := Or.inl (bk_in7 (List.mem_of_getElem? (i := 215) rfl) rfl)
theorem mc_X12_readsRider : bk_mc yX12_readsRider cX12_readsRider 3 (none : Option FieldType) 0 := ⟨bk_in7 (List.mem_of_getElem? (i := 218) rfl) rfl, bk_in1 (List.mem_of_getElem? (i := 14) rfl) rfl, by decide, by decide, by decide +kernel⟩
theorem mv_X12_readsRider : bk_mv yX12_readsRider := ⟨bk_in7 (List.mem_of_getElem? (i := 217) rfl) rfl, bk_inP5 (List.mem_of_getElem? (i := 0) rfl) rfl⟩
theorem lk_RX12_298 : bk_lk RX12 298 yX12_readsCause := Or.inl (bk_in7 (List.mem_of_getElem? (i := 211) rfl) rfl)
theorem mc_X12_readsCause : bk_mc yX12_readsCause cX12_readsCause 4 (none : Option FieldType) 0 := ⟨bk_in7 (List.mem_of_getElem? (i := 214) rfl) rfl, bk_in1 (List.mem_of_getElem? (i := 14) rfl) rfl, by decide, by decide, by decide +kernel⟩
theorem mv_X12_readsCause : bk_mv yX12_readsCause := ⟨bk_in7 (List.mem_of_getElem? (i := 213) rfl) rfl, bk_inP4 (List.mem_of_getElem? (i := 15) rfl) rfl⟩
theorem fp_RX12_292 : bk_fp RX12 292 11 38 .int false := ⟨_, _, _, _, ok_11, by decide, rfl, bk_in6 (List.mem_of_getElem? (i := 152) rfl) rfl, Or.inl rfl⟩
theorem fp_RX12_295 : bk_fp RX12 295 11 39 .int false := ⟨_, _, _, _, ok_11, by decide, rfl, bk_in6 (List.mem_of_getElem? (i := 153) rfl) rfl, Or.inl rfl⟩
theorem fp_RX12_289 : bk_fp RX12 289 11 37 .int false := ⟨_, _, _, _, ok_11, by decide, rfl, bk_in6 (List.mem_of_getElem? (i := 151) rfl) rfl, Or.inl rfl⟩
theorem fp_RX12_286 : bk_fp RX12 286 11 36 .int false := ⟨_, _, _, _, ok_11, by decide, rfl, bk_in6 (List.mem_of_getElem? (i := 150) rfl) rfl, Or.inl rfl⟩
theorem fp_RX12_283 : bk_fp RX12 283 11 35 .int false := ⟨_, _, _, _, ok_11, by decide, rfl, bk_in6 (List.mem_of_getElem? (i := 149) rfl) rfl, Or.inl rfl⟩
theorem fp_RX12_280 : bk_fp RX12 280 11 34 .int false := ⟨_, _, _, _, ok_11, by decide, rfl, bk_in6 (List.mem_of_getElem? (i := 148) rfl) rfl, Or.inl rfl⟩
theorem fp_RX12_277 : bk_fp RX12 277 11 33 .int false := ⟨_, _, _, _, ok_11, by decide, rfl, bk_in6 (List.mem_of_getElem? (i := 147) rfl) rfl, Or.inl rfl⟩
theorem lk_RX12_271 : bk_lk RX12 271 yX12_readsHole := Or.inl (bk_in7 (List.mem_of_getElem? (i := 203) rfl) rfl)
theorem mc_X12_readsHole : bk_mc yX12_readsHole cX12_readsHole 5 (none : Option FieldType) 0 := ⟨bk_in7 (List.mem_of_getElem? (i := 206) rfl) rfl, bk_in1 (List.mem_of_getElem? (i := 14) rfl) rfl, by decide, by decide, by decide +kernel⟩
theorem mv_X12_readsHole : bk_mv yX12_readsHole := ⟨bk_in7 (List.mem_of_getElem? (i := 205) rfl) rfl, bk_inP4 (List.mem_of_getElem? (i := 13) rfl) rfl⟩
theorem fp_RX12_255 : bk_fp RX12 255 11 32 .int false := ⟨_, _, _, _, ok_11, by decide, rfl, bk_in6 (List.mem_of_getElem? (i := 146) rfl) rfl, Or.inl rfl⟩
theorem lk_RX2_42 : bk_lk RX2 42 yX11_isWithin := Or.inr ⟨"BucketTube", by decide +kernel⟩
theorem lk_RX2_38 : bk_lk RX2 38 yX2_tacksFit := Or.inl (bk_in6 (List.mem_of_getElem? (i := 6) rfl) rfl)
theorem mc_X2_tacksFit : bk_mc yX2_tacksFit cX2_tacksFit 5 (some FieldType.boolean) 2 := ⟨bk_in6 (List.mem_of_getElem? (i := 9) rfl) rfl, bk_in1 (List.mem_of_getElem? (i := 7) rfl) rfl, by decide, by decide, by decide +kernel⟩
theorem mv_X2_tacksFit : bk_mv yX2_tacksFit := ⟨bk_in6 (List.mem_of_getElem? (i := 8) rfl) rfl, bk_inP3 (List.mem_of_getElem? (i := 14) rfl) rfl⟩
theorem fl_RX11_137 : bk_fl RX11 137 4 4 := ⟨_, _, _, _, ok_4, by decide, Or.inl (bk_in1 (List.mem_of_getElem? (i := 202) rfl) rfl)⟩
theorem lk_RX11_389 : bk_lk RX11 389 yX2_firstHourFitting := Or.inl (bk_in6 (List.mem_of_getElem? (i := 11) rfl) rfl)
theorem mc_X2_firstHourFitting : bk_mc yX2_firstHourFitting cX2_firstHourFitting 3 (some FieldType.int) 1 := ⟨bk_in6 (List.mem_of_getElem? (i := 14) rfl) rfl, bk_in1 (List.mem_of_getElem? (i := 7) rfl) rfl, by decide, by decide, by decide +kernel⟩
theorem mv_X2_firstHourFitting : bk_mv yX2_firstHourFitting := ⟨bk_in6 (List.mem_of_getElem? (i := 12) rfl) rfl, bk_in6 (List.mem_of_getElem? (i := 13) rfl) rfl⟩
theorem lk_RX11_386 : bk_lk RX11 386 yX2_hoursFitting := Or.inl (bk_in6 (List.mem_of_getElem? (i := 2) rfl) rfl)
theorem mc_X2_hoursFitting : bk_mc yX2_hoursFitting cX2_hoursFitting 4 (some FieldType.int) 1 := ⟨bk_in6 (List.mem_of_getElem? (i := 5) rfl) rfl, bk_in1 (List.mem_of_getElem? (i := 7) rfl) rfl, by decide, by decide, by decide +kernel⟩
theorem mv_X2_hoursFitting : bk_mv yX2_hoursFitting := ⟨bk_in6 (List.mem_of_getElem? (i := 3) rfl) rfl, bk_in6 (List.mem_of_getElem? (i := 4) rfl) rfl⟩
theorem fl_RX11_40 : bk_fl RX11 40 10 12 := ⟨_, _, _, _, ok_10, by decide, Or.inl (bk_in2 (List.mem_of_getElem? (i := 104) rfl) rfl)⟩
theorem fl_RX12_499 : bk_fl RX12 499 11 75 := ⟨_, _, _, _, ok_11, by decide, Or.inl (bk_in6 (List.mem_of_getElem? (i := 189) rfl) rfl)⟩
theorem fl_RX12_22 : bk_fl RX12 22 11 5 := ⟨_, _, _, _, ok_11, by decide, Or.inl (bk_in6 (List.mem_of_getElem? (i := 119) rfl) rfl)⟩
theorem fp_RX12_499 : bk_fp RX12 499 11 75 .int false := ⟨_, _, _, _, ok_11, by decide, rfl, bk_in6 (List.mem_of_getElem? (i := 189) rfl) rfl, Or.inl rfl⟩
theorem lk_RX12_502 : bk_lk RX12 502 yX12_ridesFor := Or.inl (bk_in9 (List.mem_of_getElem? (i := 52) rfl) rfl)
theorem mc_X12_ridesFor : bk_mc yX12_ridesFor cX12_ridesFor 5 (some FieldType.int) 1 := ⟨bk_in9 (List.mem_of_getElem? (i := 55) rfl) rfl, bk_in1 (List.mem_of_getElem? (i := 14) rfl) rfl, by decide, by decide, by decide +kernel⟩
theorem mv_X12_ridesFor : bk_mv yX12_ridesFor := ⟨bk_in9 (List.mem_of_getElem? (i := 54) rfl) rfl, bk_inP7 (List.mem_of_getElem? (i := 5) rfl) rfl⟩
theorem lk_RX11_283 : bk_lk RX11 283 yX0_likeliest := Or.inl (bk_in3 (List.mem_of_getElem? (i := 41) rfl) rfl)
theorem mc_X0_likeliest : bk_mc yX0_likeliest cX0_likeliest 3 (some FieldType.int) 1 := ⟨bk_in3 (List.mem_of_getElem? (i := 43) rfl) rfl, bk_in1 (List.mem_of_getElem? (i := 12) rfl) rfl, by decide, by decide, by decide +kernel⟩
theorem st_X0_likeliest : Cond.static yX0_likeliest ∈ bk_GW := bk_in3 (List.mem_of_getElem? (i := 42) rfl) rfl
theorem lk_RX11_244 : bk_lk RX11 244 yX11_believe := Or.inl (bk_in3 (List.mem_of_getElem? (i := 37) rfl) rfl)
theorem mc_X11_believe : bk_mc yX11_believe cX11_believe 2 (some FieldType.int) 1 := ⟨bk_in3 (List.mem_of_getElem? (i := 40) rfl) rfl, bk_in1 (List.mem_of_getElem? (i := 1) rfl) rfl, by decide, by decide, by decide +kernel⟩
theorem mv_X11_believe : bk_mv yX11_believe := ⟨bk_in3 (List.mem_of_getElem? (i := 39) rfl) rfl, bk_inP1 (List.mem_of_getElem? (i := 6) rfl) rfl⟩
theorem lk_RX11_238 : bk_lk RX11 238 yX0_lessenInch := Or.inl (bk_in3 (List.mem_of_getElem? (i := 33) rfl) rfl)
theorem kn_RX11_223 : Cond.methodLink RX11 223 (⟨"[J", "clone", "()Ljava/lang/Object;"⟩ : MethodName) ∈ bk_GW := bk_in3 (List.mem_of_getElem? (i := 11) rfl) rfl
theorem kn_same : Cond.sameMethod "[J" "java/lang/Object" "clone" "()Ljava/lang/Object;" ∈ bk_GW := bk_in3 (List.mem_of_getElem? (i := 12) rfl) rfl
theorem kn_nat : Cond.native (⟨"java/lang/Object", "clone", "()Ljava/lang/Object;"⟩ : MethodName) ∈ bk_GW := bk_in3 (List.mem_of_getElem? (i := 13) rfl) rfl
theorem kn_in : Cond.instanceMethod (⟨"java/lang/Object", "clone", "()Ljava/lang/Object;"⟩ : MethodName) ∈ bk_GW := bk_in3 (List.mem_of_getElem? (i := 14) rfl) rfl
theorem kn_sel : Cond.selects "[J" (⟨"[J", "clone", "()Ljava/lang/Object;"⟩ : MethodName) (⟨"java/lang/Object", "clone", "()Ljava/lang/Object;"⟩ : MethodName) ∈ bk_GW := bk_in3 (List.mem_of_getElem? (i := 15) rfl) rfl
theorem cc_RX11_224 : Cond.classLink RX11 224 "[J" ∈ bk_GW := bk_in3 (List.mem_of_getElem? (i := 17) rfl) rfl
theorem lk_RX11_279 : bk_lk RX11 279 yX11_weightOfQuarter := Or.inl (bk_in3 (List.mem_of_getElem? (i := 72) rfl) rfl)
theorem mc_X11_weightOfQuarter : bk_mc yX11_weightOfQuarter cX11_weightOfQuarter 5 (some FieldType.long) 1 := ⟨bk_in3 (List.mem_of_getElem? (i := 75) rfl) rfl, bk_in1 (List.mem_of_getElem? (i := 1) rfl) rfl, by decide, by decide, by decide +kernel⟩
theorem mv_X11_weightOfQuarter : bk_mv yX11_weightOfQuarter := ⟨bk_in3 (List.mem_of_getElem? (i := 74) rfl) rfl, bk_inP1 (List.mem_of_getElem? (i := 7) rfl) rfl⟩
theorem oi_RX7 : Cond.methodLink RX7 3 Lib.objectInit ∈ bk_GW := bk_in1 (List.mem_of_getElem? (i := 39) rfl) rfl
theorem ac_4 : Cond.arrayClass (newarray.typeOf .byte) ∈ bk_GW := bk_in1 (List.mem_of_getElem? (i := 49) rfl) rfl
theorem fp_RX7_9 : bk_fp RX7 9 6 0 (.array .byte) true := ⟨_, _, _, _, ok_6, by decide, rfl, bk_in1 (List.mem_of_getElem? (i := 40) rfl) rfl, Or.inr ⟨rfl, rfl, rfl⟩⟩
theorem oi_RX3 : Cond.methodLink RX3 3 Lib.objectInit ∈ bk_GW := bk_in1 (List.mem_of_getElem? (i := 55) rfl) rfl
theorem fp_RX3_9 : bk_fp RX3 9 2 0 (.array .long) true := ⟨_, _, _, _, ok_2, by decide, rfl, bk_in1 (List.mem_of_getElem? (i := 56) rfl) rfl, Or.inr ⟨rfl, rfl, rfl⟩⟩
theorem fp_RX3_15 : bk_fp RX3 15 2 1 (.array .long) true := ⟨_, _, _, _, ok_2, by decide, rfl, bk_in1 (List.mem_of_getElem? (i := 57) rfl) rfl, Or.inr ⟨rfl, rfl, rfl⟩⟩
theorem fp_RX3_18 : bk_fp RX3 18 2 2 (.array .int) true := ⟨_, _, _, _, ok_2, by decide, rfl, bk_in1 (List.mem_of_getElem? (i := 58) rfl) rfl, Or.inr ⟨rfl, rfl, rfl⟩⟩
theorem fp_RX3_22 : bk_fp RX3 22 2 3 (.array .long) true := ⟨_, _, _, _, ok_2, by decide, rfl, bk_in1 (List.mem_of_getElem? (i := 59) rfl) rfl, Or.inr ⟨rfl, rfl, rfl⟩⟩
theorem oi_RX10 : Cond.methodLink RX10 3 Lib.objectInit ∈ bk_GW := bk_in1 (List.mem_of_getElem? (i := 123) rfl) rfl
theorem fp_RX10_9 : bk_fp RX10 9 9 0 (.array .int) true := ⟨_, _, _, _, ok_9, by decide, rfl, bk_in1 (List.mem_of_getElem? (i := 124) rfl) rfl, Or.inr ⟨rfl, rfl, rfl⟩⟩
theorem fp_RX10_15 : bk_fp RX10 15 9 1 (.array .int) true := ⟨_, _, _, _, ok_9, by decide, rfl, bk_in1 (List.mem_of_getElem? (i := 126) rfl) rfl, Or.inr ⟨rfl, rfl, rfl⟩⟩
theorem oi_RX2 : Cond.methodLink RX2 3 Lib.objectInit ∈ bk_GW := bk_in1 (List.mem_of_getElem? (i := 144) rfl) rfl
theorem fp_RX2_9 : bk_fp RX2 9 1 0 (.array .int) true := ⟨_, _, _, _, ok_1, by decide, rfl, bk_in1 (List.mem_of_getElem? (i := 145) rfl) rfl, Or.inr ⟨rfl, rfl, rfl⟩⟩
theorem fp_RX2_15 : bk_fp RX2 15 1 1 (.array .int) true := ⟨_, _, _, _, ok_1, by decide, rfl, bk_in1 (List.mem_of_getElem? (i := 146) rfl) rfl, Or.inr ⟨rfl, rfl, rfl⟩⟩
theorem fp_RX2_18 : bk_fp RX2 18 1 2 (.array .int) true := ⟨_, _, _, _, ok_1, by decide, rfl, bk_in1 (List.mem_of_getElem? (i := 147) rfl) rfl, Or.inr ⟨rfl, rfl, rfl⟩⟩
theorem ac_5 : Cond.arrayClass (newarray.typeOf .boolean) ∈ bk_GW := bk_in1 (List.mem_of_getElem? (i := 164) rfl) rfl
theorem fp_RX2_21 : bk_fp RX2 21 1 3 (.array .boolean) true := ⟨_, _, _, _, ok_1, by decide, rfl, bk_in1 (List.mem_of_getElem? (i := 148) rfl) rfl, Or.inr ⟨rfl, rfl, rfl⟩⟩
theorem oi_RX4 : Cond.methodLink RX4 3 Lib.objectInit ∈ bk_GW := bk_in1 (List.mem_of_getElem? (i := 170) rfl) rfl
theorem fp_RX4_9 : bk_fp RX4 9 3 0 (.array .int) true := ⟨_, _, _, _, ok_3, by decide, rfl, bk_in1 (List.mem_of_getElem? (i := 171) rfl) rfl, Or.inr ⟨rfl, rfl, rfl⟩⟩
theorem fp_RX4_15 : bk_fp RX4 15 3 1 (.array .int) true := ⟨_, _, _, _, ok_3, by decide, rfl, bk_in1 (List.mem_of_getElem? (i := 172) rfl) rfl, Or.inr ⟨rfl, rfl, rfl⟩⟩
theorem fp_RX5_55 : bk_fp RX5 55 0 4 .int false := ⟨_, _, _, _, ok_0, by decide, rfl, bk_in1 (List.mem_of_getElem? (i := 104) rfl) rfl, Or.inl rfl⟩
theorem fl_RX5_28 : bk_fl RX5 28 4 3 := ⟨_, _, _, _, ok_4, by decide, Or.inl (bk_in1 (List.mem_of_getElem? (i := 198) rfl) rfl)⟩
theorem fp_RX5_59 : bk_fp RX5 59 9 2 .int false := ⟨_, _, _, _, ok_9, by decide, rfl, bk_in1 (List.mem_of_getElem? (i := 129) rfl) rfl, Or.inl rfl⟩
theorem fl_RX5_35 : bk_fl RX5 35 4 4 := ⟨_, _, _, _, ok_4, by decide, Or.inl (bk_in1 (List.mem_of_getElem? (i := 201) rfl) rfl)⟩
theorem fp_RX5_60 : bk_fp RX5 60 1 4 .int false := ⟨_, _, _, _, ok_1, by decide, rfl, bk_in1 (List.mem_of_getElem? (i := 150) rfl) rfl, Or.inl rfl⟩
theorem lk_RX5_61 : bk_lk RX5 61 yX4_clear := Or.inl (bk_in1 (List.mem_of_getElem? (i := 185) rfl) rfl)
theorem mc_X4_clear : bk_mc yX4_clear cX4_clear 1 (none : Option FieldType) 0 := ⟨bk_in1 (List.mem_of_getElem? (i := 188) rfl) rfl, bk_in1 (List.mem_of_getElem? (i := 8) rfl) rfl, by decide, by decide, by decide +kernel⟩
theorem mv_X4_clear : bk_mv yX4_clear := ⟨bk_in1 (List.mem_of_getElem? (i := 186) rfl) rfl, bk_in1 (List.mem_of_getElem? (i := 187) rfl) rfl⟩
theorem oi_RX5 : Cond.methodLink RX5 3 Lib.objectInit ∈ bk_GW := bk_in1 (List.mem_of_getElem? (i := 86) rfl) rfl
theorem fp_RX5_9 : bk_fp RX5 9 4 0 (.array .int) true := ⟨_, _, _, _, ok_4, by decide, rfl, bk_in1 (List.mem_of_getElem? (i := 189) rfl) rfl, Or.inr ⟨rfl, rfl, rfl⟩⟩
theorem fp_RX5_15 : bk_fp RX5 15 4 1 (.array .int) true := ⟨_, _, _, _, ok_4, by decide, rfl, bk_in1 (List.mem_of_getElem? (i := 192) rfl) rfl, Or.inr ⟨rfl, rfl, rfl⟩⟩
theorem cl_RX5_18 : Cond.classLink RX5 18 RX1 ∈ bk_GW := bk_in1 (List.mem_of_getElem? (i := 87) rfl) rfl
theorem ib_RX1 : Cond.instantiable RX1 5 ∈ bk_GW := bk_in1 (List.mem_of_getElem? (i := 88) rfl) rfl
theorem in_RX1 : Cond.initialized RX1 ∈ bk_GW := bk_in1 (List.mem_of_getElem? (i := 5) rfl) rfl
theorem lk_RX5_20 : bk_lk RX5 20 yX1_init := Or.inr ⟨"BucketTube", by decide +kernel⟩
theorem mc_X1_init : bk_mc yX1_init cX1_init 1 (none : Option FieldType) 0 := ⟨bk_in1 (List.mem_of_getElem? (i := 91) rfl) rfl, bk_in1 (List.mem_of_getElem? (i := 5) rfl) rfl, by decide, by decide, by decide +kernel⟩
theorem im_X1_init : Cond.instanceMethod yX1_init ∈ bk_GW := bk_in1 (List.mem_of_getElem? (i := 90) rfl) rfl
theorem fp_RX5_21 : bk_fp RX5 21 4 2 (.object "BucketTube$Holes") true := ⟨_, _, _, _, ok_4, by decide, rfl, bk_in1 (List.mem_of_getElem? (i := 195) rfl) rfl, Or.inr ⟨rfl, rfl, rfl⟩⟩
theorem cl_RX5_25 : Cond.classLink RX5 25 RX10 ∈ bk_GW := bk_in1 (List.mem_of_getElem? (i := 118) rfl) rfl
theorem ib_RX10 : Cond.instantiable RX10 3 ∈ bk_GW := bk_in1 (List.mem_of_getElem? (i := 119) rfl) rfl
theorem in_RX10 : Cond.initialized RX10 ∈ bk_GW := bk_in1 (List.mem_of_getElem? (i := 6) rfl) rfl
theorem lk_RX5_27 : bk_lk RX5 27 yX10_init := Or.inr ⟨"BucketTube", by decide +kernel⟩
theorem mc_X10_init : bk_mc yX10_init cX10_init 1 (none : Option FieldType) 0 := ⟨bk_in1 (List.mem_of_getElem? (i := 122) rfl) rfl, bk_in1 (List.mem_of_getElem? (i := 6) rfl) rfl, by decide, by decide, by decide +kernel⟩
theorem im_X10_init : Cond.instanceMethod yX10_init ∈ bk_GW := bk_in1 (List.mem_of_getElem? (i := 121) rfl) rfl
theorem fp_RX5_28 : bk_fp RX5 28 4 3 (.object "BucketTube$Tries") true := ⟨_, _, _, _, ok_4, by decide, rfl, bk_in1 (List.mem_of_getElem? (i := 198) rfl) rfl, Or.inr ⟨rfl, rfl, rfl⟩⟩
theorem cl_RX5_32 : Cond.classLink RX5 32 RX2 ∈ bk_GW := bk_in1 (List.mem_of_getElem? (i := 139) rfl) rfl
theorem ib_RX2 : Cond.instantiable RX2 5 ∈ bk_GW := bk_in1 (List.mem_of_getElem? (i := 140) rfl) rfl
theorem in_RX2 : Cond.initialized RX2 ∈ bk_GW := bk_in1 (List.mem_of_getElem? (i := 7) rfl) rfl
theorem lk_RX5_34 : bk_lk RX5 34 yX2_init := Or.inr ⟨"BucketTube", by decide +kernel⟩
theorem mc_X2_init : bk_mc yX2_init cX2_init 1 (none : Option FieldType) 0 := ⟨bk_in1 (List.mem_of_getElem? (i := 143) rfl) rfl, bk_in1 (List.mem_of_getElem? (i := 7) rfl) rfl, by decide, by decide, by decide +kernel⟩
theorem im_X2_init : Cond.instanceMethod yX2_init ∈ bk_GW := bk_in1 (List.mem_of_getElem? (i := 142) rfl) rfl
theorem fp_RX5_35 : bk_fp RX5 35 4 4 (.object "BucketTube$Riders") true := ⟨_, _, _, _, ok_4, by decide, rfl, bk_in1 (List.mem_of_getElem? (i := 201) rfl) rfl, Or.inr ⟨rfl, rfl, rfl⟩⟩
theorem cl_RX5_39 : Cond.classLink RX5 39 RX4 ∈ bk_GW := bk_in1 (List.mem_of_getElem? (i := 165) rfl) rfl
theorem ib_RX4 : Cond.instantiable RX4 3 ∈ bk_GW := bk_in1 (List.mem_of_getElem? (i := 166) rfl) rfl
theorem in_RX4 : Cond.initialized RX4 ∈ bk_GW := bk_in1 (List.mem_of_getElem? (i := 8) rfl) rfl
theorem lk_RX5_41 : bk_lk RX5 41 yX4_init := Or.inr ⟨"BucketTube", by decide +kernel⟩
theorem mc_X4_init : bk_mc yX4_init cX4_init 1 (none : Option FieldType) 0 := ⟨bk_in1 (List.mem_of_getElem? (i := 169) rfl) rfl, bk_in1 (List.mem_of_getElem? (i := 8) rfl) rfl, by decide, by decide, by decide +kernel⟩
theorem im_X4_init : Cond.instanceMethod yX4_init ∈ bk_GW := bk_in1 (List.mem_of_getElem? (i := 168) rfl) rfl
theorem fp_RX5_42 : bk_fp RX5 42 4 5 (.object "BucketTube$Rule") true := ⟨_, _, _, _, ok_4, by decide, rfl, bk_in1 (List.mem_of_getElem? (i := 204) rfl) rfl, Or.inr ⟨rfl, rfl, rfl⟩⟩
theorem fp_RX5_46 : bk_fp RX5 46 4 6 (.object "BucketTube$Rule") true := ⟨_, _, _, _, ok_4, by decide, rfl, bk_in1 (List.mem_of_getElem? (i := 206) rfl) rfl, Or.inr ⟨rfl, rfl, rfl⟩⟩
theorem fp_RX5_49 : bk_fp RX5 49 4 7 (.array .int) true := ⟨_, _, _, _, ok_4, by decide, rfl, bk_in1 (List.mem_of_getElem? (i := 208) rfl) rfl, Or.inr ⟨rfl, rfl, rfl⟩⟩
theorem lk_RX5_52 : bk_lk RX5 52 yX5_clear := Or.inl (bk_in1 (List.mem_of_getElem? (i := 181) rfl) rfl)
theorem mc_X5_clear : bk_mc yX5_clear cX5_clear 1 (none : Option FieldType) 0 := ⟨bk_in1 (List.mem_of_getElem? (i := 184) rfl) rfl, bk_in1 (List.mem_of_getElem? (i := 4) rfl) rfl, by decide, by decide, by decide +kernel⟩
theorem mv_X5_clear : bk_mv yX5_clear := ⟨bk_in1 (List.mem_of_getElem? (i := 182) rfl) rfl, bk_in1 (List.mem_of_getElem? (i := 183) rfl) rfl⟩
theorem oi_RX9 : Cond.methodLink RX9 1 Lib.objectInit ∈ bk_GW := bk_in1 (List.mem_of_getElem? (i := 237) rfl) rfl
theorem fp_RX9_7 : bk_fp RX9 7 8 0 (.array .byte) true := ⟨_, _, _, _, ok_8, by decide, rfl, bk_in1 (List.mem_of_getElem? (i := 238) rfl) rfl, Or.inr ⟨rfl, rfl, rfl⟩⟩
theorem oi_RX8 : Cond.methodLink RX8 3 Lib.objectInit ∈ bk_GW := bk_in1 (List.mem_of_getElem? (i := 231) rfl) rfl
theorem cl_RX8_9 : Cond.classLink RX8 9 RX9 ∈ bk_GW := bk_in1 (List.mem_of_getElem? (i := 232) rfl) rfl
theorem ib_RX9 : Cond.instantiable RX9 5 ∈ bk_GW := bk_in1 (List.mem_of_getElem? (i := 233) rfl) rfl
theorem in_RX9 : Cond.initialized RX9 ∈ bk_GW := bk_in1 (List.mem_of_getElem? (i := 10) rfl) rfl
theorem lk_RX8_11 : bk_lk RX8 11 yX9_init := Or.inl (bk_in1 (List.mem_of_getElem? (i := 234) rfl) rfl)
theorem mc_X9_init : bk_mc yX9_init cX9_init 2 (none : Option FieldType) 1 := ⟨bk_in1 (List.mem_of_getElem? (i := 236) rfl) rfl, bk_in1 (List.mem_of_getElem? (i := 10) rfl) rfl, by decide, by decide, by decide +kernel⟩
theorem im_X9_init : Cond.instanceMethod yX9_init ∈ bk_GW := bk_in1 (List.mem_of_getElem? (i := 235) rfl) rfl
theorem fp_RX8_14 : bk_fp RX8 14 7 0 (.object "BucketTube$Tokens") true := ⟨_, _, _, _, ok_7, by decide, rfl, bk_in2 (List.mem_of_getElem? (i := 16) rfl) rfl, Or.inr ⟨rfl, rfl, rfl⟩⟩
theorem fp_RX8_20 : bk_fp RX8 20 7 1 (.object "BucketTube$Shed") false := ⟨_, _, _, _, ok_7, by decide, rfl, bk_in2 (List.mem_of_getElem? (i := 17) rfl) rfl, Or.inl rfl⟩
theorem oi_RX11 : Cond.methodLink RX11 1 Lib.objectInit ∈ bk_GW := bk_in1 (List.mem_of_getElem? (i := 31) rfl) rfl
theorem cl_RX11_7 : Cond.classLink RX11 7 RX7 ∈ bk_GW := bk_in1 (List.mem_of_getElem? (i := 34) rfl) rfl
theorem ib_RX7 : Cond.instantiable RX7 2 ∈ bk_GW := bk_in1 (List.mem_of_getElem? (i := 35) rfl) rfl
theorem in_RX7 : Cond.initialized RX7 ∈ bk_GW := bk_in1 (List.mem_of_getElem? (i := 2) rfl) rfl
theorem lk_RX11_9 : bk_lk RX11 9 yX7_init := Or.inr ⟨"BucketTube", by decide +kernel⟩
theorem mc_X7_init : bk_mc yX7_init cX7_init 1 (none : Option FieldType) 0 := ⟨bk_in1 (List.mem_of_getElem? (i := 38) rfl) rfl, bk_in1 (List.mem_of_getElem? (i := 2) rfl) rfl, by decide, by decide, by decide +kernel⟩
theorem im_X7_init : Cond.instanceMethod yX7_init ∈ bk_GW := bk_in1 (List.mem_of_getElem? (i := 37) rfl) rfl
theorem fp_RX11_10 : bk_fp RX11 10 10 0 (.object "BucketTube$Tape") true := ⟨_, _, _, _, ok_10, by decide, rfl, bk_in2 (List.mem_of_getElem? (i := 92) rfl) rfl, Or.inr ⟨rfl, rfl, rfl⟩⟩
theorem cl_RX11_16 : Cond.classLink RX11 16 RX3 ∈ bk_GW := bk_in1 (List.mem_of_getElem? (i := 50) rfl) rfl
theorem ib_RX3 : Cond.instantiable RX3 7 ∈ bk_GW := bk_in1 (List.mem_of_getElem? (i := 51) rfl) rfl
theorem in_RX3 : Cond.initialized RX3 ∈ bk_GW := bk_in1 (List.mem_of_getElem? (i := 3) rfl) rfl
theorem lk_RX11_18 : bk_lk RX11 18 yX3_init := Or.inr ⟨"BucketTube", by decide +kernel⟩
theorem mc_X3_init : bk_mc yX3_init cX3_init 1 (none : Option FieldType) 0 := ⟨bk_in1 (List.mem_of_getElem? (i := 54) rfl) rfl, bk_in1 (List.mem_of_getElem? (i := 3) rfl) rfl, by decide, by decide, by decide +kernel⟩
theorem im_X3_init : Cond.instanceMethod yX3_init ∈ bk_GW := bk_in1 (List.mem_of_getElem? (i := 53) rfl) rfl
theorem fp_RX11_19 : bk_fp RX11 19 10 1 (.object "BucketTube$Route") true := ⟨_, _, _, _, ok_10, by decide, rfl, bk_in2 (List.mem_of_getElem? (i := 93) rfl) rfl, Or.inr ⟨rfl, rfl, rfl⟩⟩
theorem fp_RX11_23 : bk_fp RX11 23 10 3 (.array .int) true := ⟨_, _, _, _, ok_10, by decide, rfl, bk_in2 (List.mem_of_getElem? (i := 95) rfl) rfl, Or.inr ⟨rfl, rfl, rfl⟩⟩
theorem fp_RX11_27 : bk_fp RX11 27 10 4 (.array .int) true := ⟨_, _, _, _, ok_10, by decide, rfl, bk_in2 (List.mem_of_getElem? (i := 96) rfl) rfl, Or.inr ⟨rfl, rfl, rfl⟩⟩
theorem cl_RX11_30 : Cond.classLink RX11 30 RX5 ∈ bk_GW := bk_in1 (List.mem_of_getElem? (i := 81) rfl) rfl
theorem ib_RX5 : Cond.instantiable RX5 8 ∈ bk_GW := bk_in1 (List.mem_of_getElem? (i := 82) rfl) rfl
theorem in_RX5 : Cond.initialized RX5 ∈ bk_GW := bk_in1 (List.mem_of_getElem? (i := 4) rfl) rfl
theorem lk_RX11_32 : bk_lk RX11 32 yX5_init := Or.inl (bk_in1 (List.mem_of_getElem? (i := 83) rfl) rfl)
theorem mc_X5_init : bk_mc yX5_init cX5_init 1 (none : Option FieldType) 0 := ⟨bk_in1 (List.mem_of_getElem? (i := 85) rfl) rfl, bk_in1 (List.mem_of_getElem? (i := 4) rfl) rfl, by decide, by decide, by decide +kernel⟩
theorem im_X5_init : Cond.instanceMethod yX5_init ∈ bk_GW := bk_in1 (List.mem_of_getElem? (i := 84) rfl) rfl
theorem fp_RX11_40 : bk_fp RX11 40 10 12 .int false := ⟨_, _, _, _, ok_10, by decide, rfl, bk_in2 (List.mem_of_getElem? (i := 104) rfl) rfl, Or.inl rfl⟩
theorem cl_RX11_44 : Cond.classLink RX11 44 RX8 ∈ bk_GW := bk_in1 (List.mem_of_getElem? (i := 226) rfl) rfl
theorem ib_RX8 : Cond.instantiable RX8 6 ∈ bk_GW := bk_in1 (List.mem_of_getElem? (i := 227) rfl) rfl
theorem in_RX8 : Cond.initialized RX8 ∈ bk_GW := bk_in1 (List.mem_of_getElem? (i := 9) rfl) rfl
theorem fl_RX11_46 : bk_fl RX11 46 6 0 := ⟨_, _, _, _, ok_6, by decide, Or.inl (bk_in1 (List.mem_of_getElem? (i := 41) rfl) rfl)⟩
theorem lk_RX11_50 : bk_lk RX11 50 yX8_init := Or.inl (bk_in1 (List.mem_of_getElem? (i := 228) rfl) rfl)
theorem mc_X8_init : bk_mc yX8_init cX8_init 3 (none : Option FieldType) 2 := ⟨bk_in1 (List.mem_of_getElem? (i := 230) rfl) rfl, bk_in1 (List.mem_of_getElem? (i := 9) rfl) rfl, by decide, by decide, by decide +kernel⟩
theorem im_X8_init : Cond.instanceMethod yX8_init ∈ bk_GW := bk_in1 (List.mem_of_getElem? (i := 229) rfl) rfl
theorem fp_RX11_53 : bk_fp RX11 53 10 2 (.object "BucketTube$Telling") true := ⟨_, _, _, _, ok_10, by decide, rfl, bk_in2 (List.mem_of_getElem? (i := 94) rfl) rfl, Or.inr ⟨rfl, rfl, rfl⟩⟩
theorem lk_RX10_22 : bk_lk RX10 22 yX10_isCheaper := Or.inl (bk_in5 (List.mem_of_getElem? (i := 224) rfl) rfl)
theorem mc_X10_isCheaper : bk_mc yX10_isCheaper cX10_isCheaper 3 (some FieldType.boolean) 2 := ⟨bk_in5 (List.mem_of_getElem? (i := 227) rfl) rfl, bk_in1 (List.mem_of_getElem? (i := 6) rfl) rfl, by decide, by decide, by decide +kernel⟩
theorem mv_X10_isCheaper : bk_mv yX10_isCheaper := ⟨bk_in5 (List.mem_of_getElem? (i := 226) rfl) rfl, bk_inP3 (List.mem_of_getElem? (i := 13) rfl) rfl⟩
theorem lk_RX11_264 : bk_lk RX11 264 yX0_total := Or.inl (bk_in4 (List.mem_of_getElem? (i := 229) rfl) rfl)
theorem lk_RX11_343 : bk_lk RX11 343 yX11_holeAmong := Or.inl (bk_in5 (List.mem_of_getElem? (i := 101) rfl) rfl)
theorem mc_X11_holeAmong : bk_mc yX11_holeAmong cX11_holeAmong 5 (some FieldType.int) 1 := ⟨bk_in5 (List.mem_of_getElem? (i := 104) rfl) rfl, bk_in1 (List.mem_of_getElem? (i := 1) rfl) rfl, by decide, by decide, by decide +kernel⟩
theorem mv_X11_holeAmong : bk_mv yX11_holeAmong := ⟨bk_in5 (List.mem_of_getElem? (i := 103) rfl) rfl, bk_inP3 (List.mem_of_getElem? (i := 8) rfl) rfl⟩
theorem kl_RX11_341 : Cond.constantLong RX11 341 100 ∈ bk_GW := bk_in5 (List.mem_of_getElem? (i := 100) rfl) rfl
theorem lk_RX12_371 : bk_lk RX12 371 yX12_mayMake := Or.inl (bk_in6 (List.mem_of_getElem? (i := 106) rfl) rfl)
theorem mc_X12_mayMake : bk_mc yX12_mayMake cX12_mayMake 3 (some FieldType.boolean) 2 := ⟨bk_in6 (List.mem_of_getElem? (i := 108) rfl) rfl, bk_in1 (List.mem_of_getElem? (i := 14) rfl) rfl, by decide, by decide, by decide +kernel⟩
theorem st_X12_mayMake : Cond.static yX12_mayMake ∈ bk_GW := bk_in6 (List.mem_of_getElem? (i := 107) rfl) rfl
theorem fl_RX12_41 : bk_fl RX12 41 11 15 := ⟨_, _, _, _, ok_11, by decide, Or.inl (bk_in6 (List.mem_of_getElem? (i := 129) rfl) rfl)⟩
theorem lk_RX12_376 : bk_lk RX12 376 yX12_placesOf := Or.inl (bk_in6 (List.mem_of_getElem? (i := 110) rfl) rfl)
theorem mc_X12_placesOf : bk_mc yX12_placesOf cX12_placesOf 2 (some FieldType.int) 1 := ⟨bk_in6 (List.mem_of_getElem? (i := 113) rfl) rfl, bk_in1 (List.mem_of_getElem? (i := 14) rfl) rfl, by decide, by decide, by decide +kernel⟩
theorem mv_X12_placesOf : bk_mv yX12_placesOf := ⟨bk_in6 (List.mem_of_getElem? (i := 112) rfl) rfl, bk_inP4 (List.mem_of_getElem? (i := 0) rfl) rfl⟩
theorem oi_RX12 : Cond.methodLink RX12 1 Lib.objectInit ∈ bk_GW := bk_in6 (List.mem_of_getElem? (i := 101) rfl) rfl
theorem fp_RX12_7 : bk_fp RX12 7 11 1 .int false := ⟨_, _, _, _, ok_11, by decide, rfl, bk_in6 (List.mem_of_getElem? (i := 115) rfl) rfl, Or.inl rfl⟩
theorem fp_RX12_13 : bk_fp RX12 13 11 2 .int false := ⟨_, _, _, _, ok_11, by decide, rfl, bk_in6 (List.mem_of_getElem? (i := 116) rfl) rfl, Or.inl rfl⟩
theorem fp_RX12_16 : bk_fp RX12 16 11 3 .int false := ⟨_, _, _, _, ok_11, by decide, rfl, bk_in6 (List.mem_of_getElem? (i := 117) rfl) rfl, Or.inl rfl⟩
theorem fp_RX12_19 : bk_fp RX12 19 11 4 .int false := ⟨_, _, _, _, ok_11, by decide, rfl, bk_in6 (List.mem_of_getElem? (i := 118) rfl) rfl, Or.inl rfl⟩
theorem fp_RX12_22 : bk_fp RX12 22 11 5 .int false := ⟨_, _, _, _, ok_11, by decide, rfl, bk_in6 (List.mem_of_getElem? (i := 119) rfl) rfl, Or.inl rfl⟩
theorem fp_RX12_25 : bk_fp RX12 25 11 7 .int false := ⟨_, _, _, _, ok_11, by decide, rfl, bk_in6 (List.mem_of_getElem? (i := 121) rfl) rfl, Or.inl rfl⟩
theorem fp_RX12_28 : bk_fp RX12 28 11 8 .int false := ⟨_, _, _, _, ok_11, by decide, rfl, bk_in6 (List.mem_of_getElem? (i := 122) rfl) rfl, Or.inl rfl⟩
theorem fp_RX12_31 : bk_fp RX12 31 11 12 .int false := ⟨_, _, _, _, ok_11, by decide, rfl, bk_in6 (List.mem_of_getElem? (i := 126) rfl) rfl, Or.inl rfl⟩
theorem fp_RX12_34 : bk_fp RX12 34 11 13 .int false := ⟨_, _, _, _, ok_11, by decide, rfl, bk_in6 (List.mem_of_getElem? (i := 127) rfl) rfl, Or.inl rfl⟩
theorem fp_RX12_37 : bk_fp RX12 37 11 14 (.array .int) true := ⟨_, _, _, _, ok_11, by decide, rfl, bk_in6 (List.mem_of_getElem? (i := 128) rfl) rfl, Or.inr ⟨rfl, rfl, rfl⟩⟩
theorem fp_RX12_41 : bk_fp RX12 41 11 15 (.array .int) true := ⟨_, _, _, _, ok_11, by decide, rfl, bk_in6 (List.mem_of_getElem? (i := 129) rfl) rfl, Or.inr ⟨rfl, rfl, rfl⟩⟩
theorem fp_RX12_44 : bk_fp RX12 44 11 16 (.array .int) true := ⟨_, _, _, _, ok_11, by decide, rfl, bk_in6 (List.mem_of_getElem? (i := 130) rfl) rfl, Or.inr ⟨rfl, rfl, rfl⟩⟩
theorem fp_RX12_47 : bk_fp RX12 47 11 17 (.array .int) true := ⟨_, _, _, _, ok_11, by decide, rfl, bk_in6 (List.mem_of_getElem? (i := 131) rfl) rfl, Or.inr ⟨rfl, rfl, rfl⟩⟩
theorem fp_RX12_50 : bk_fp RX12 50 11 18 (.array .int) true := ⟨_, _, _, _, ok_11, by decide, rfl, bk_in6 (List.mem_of_getElem? (i := 132) rfl) rfl, Or.inr ⟨rfl, rfl, rfl⟩⟩
theorem fp_RX12_53 : bk_fp RX12 53 11 19 (.array .int) true := ⟨_, _, _, _, ok_11, by decide, rfl, bk_in6 (List.mem_of_getElem? (i := 133) rfl) rfl, Or.inr ⟨rfl, rfl, rfl⟩⟩
theorem fp_RX12_59 : bk_fp RX12 59 11 23 (.array .int) true := ⟨_, _, _, _, ok_11, by decide, rfl, bk_in6 (List.mem_of_getElem? (i := 137) rfl) rfl, Or.inr ⟨rfl, rfl, rfl⟩⟩
theorem fp_RX12_62 : bk_fp RX12 62 11 51 (.array .int) true := ⟨_, _, _, _, ok_11, by decide, rfl, bk_in6 (List.mem_of_getElem? (i := 165) rfl) rfl, Or.inr ⟨rfl, rfl, rfl⟩⟩
theorem fp_RX12_65 : bk_fp RX12 65 11 52 (.array .int) true := ⟨_, _, _, _, ok_11, by decide, rfl, bk_in6 (List.mem_of_getElem? (i := 166) rfl) rfl, Or.inr ⟨rfl, rfl, rfl⟩⟩
theorem fp_RX12_68 : bk_fp RX12 68 11 53 (.array .int) true := ⟨_, _, _, _, ok_11, by decide, rfl, bk_in6 (List.mem_of_getElem? (i := 167) rfl) rfl, Or.inr ⟨rfl, rfl, rfl⟩⟩
theorem fp_RX12_71 : bk_fp RX12 71 11 54 (.array .int) true := ⟨_, _, _, _, ok_11, by decide, rfl, bk_in6 (List.mem_of_getElem? (i := 168) rfl) rfl, Or.inr ⟨rfl, rfl, rfl⟩⟩
theorem fp_RX12_74 : bk_fp RX12 74 11 55 (.array .int) true := ⟨_, _, _, _, ok_11, by decide, rfl, bk_in6 (List.mem_of_getElem? (i := 169) rfl) rfl, Or.inr ⟨rfl, rfl, rfl⟩⟩
theorem fp_RX12_77 : bk_fp RX12 77 11 56 (.array .int) true := ⟨_, _, _, _, ok_11, by decide, rfl, bk_in6 (List.mem_of_getElem? (i := 170) rfl) rfl, Or.inr ⟨rfl, rfl, rfl⟩⟩
theorem fp_RX12_80 : bk_fp RX12 80 11 57 (.array .boolean) true := ⟨_, _, _, _, ok_11, by decide, rfl, bk_in6 (List.mem_of_getElem? (i := 171) rfl) rfl, Or.inr ⟨rfl, rfl, rfl⟩⟩
theorem fp_RX12_84 : bk_fp RX12 84 11 62 (.array .long) true := ⟨_, _, _, _, ok_11, by decide, rfl, bk_in6 (List.mem_of_getElem? (i := 176) rfl) rfl, Or.inr ⟨rfl, rfl, rfl⟩⟩
theorem fp_RX12_88 : bk_fp RX12 88 11 63 (.array .long) true := ⟨_, _, _, _, ok_11, by decide, rfl, bk_in6 (List.mem_of_getElem? (i := 177) rfl) rfl, Or.inr ⟨rfl, rfl, rfl⟩⟩
theorem fp_RX12_91 : bk_fp RX12 91 11 64 (.array .int) true := ⟨_, _, _, _, ok_11, by decide, rfl, bk_in6 (List.mem_of_getElem? (i := 178) rfl) rfl, Or.inr ⟨rfl, rfl, rfl⟩⟩
theorem fp_RX12_94 : bk_fp RX12 94 11 65 (.array .int) true := ⟨_, _, _, _, ok_11, by decide, rfl, bk_in6 (List.mem_of_getElem? (i := 179) rfl) rfl, Or.inr ⟨rfl, rfl, rfl⟩⟩
theorem fp_RX12_97 : bk_fp RX12 97 11 66 (.array .int) true := ⟨_, _, _, _, ok_11, by decide, rfl, bk_in6 (List.mem_of_getElem? (i := 180) rfl) rfl, Or.inr ⟨rfl, rfl, rfl⟩⟩
theorem fp_RX12_100 : bk_fp RX12 100 11 67 (.array .long) true := ⟨_, _, _, _, ok_11, by decide, rfl, bk_in6 (List.mem_of_getElem? (i := 181) rfl) rfl, Or.inr ⟨rfl, rfl, rfl⟩⟩
theorem fp_RX12_103 : bk_fp RX12 103 11 68 (.array .long) true := ⟨_, _, _, _, ok_11, by decide, rfl, bk_in6 (List.mem_of_getElem? (i := 182) rfl) rfl, Or.inr ⟨rfl, rfl, rfl⟩⟩
theorem fp_RX12_106 : bk_fp RX12 106 11 70 (.array .int) true := ⟨_, _, _, _, ok_11, by decide, rfl, bk_in6 (List.mem_of_getElem? (i := 184) rfl) rfl, Or.inr ⟨rfl, rfl, rfl⟩⟩
theorem fp_RX12_109 : bk_fp RX12 109 11 74 (.array .long) true := ⟨_, _, _, _, ok_11, by decide, rfl, bk_in6 (List.mem_of_getElem? (i := 188) rfl) rfl, Or.inr ⟨rfl, rfl, rfl⟩⟩
theorem fp_RX12_112 : bk_fp RX12 112 11 76 (.array .int) true := ⟨_, _, _, _, ok_11, by decide, rfl, bk_in6 (List.mem_of_getElem? (i := 190) rfl) rfl, Or.inr ⟨rfl, rfl, rfl⟩⟩
theorem fp_RX12_115 : bk_fp RX12 115 11 82 (.array .long) true := ⟨_, _, _, _, ok_11, by decide, rfl, bk_in6 (List.mem_of_getElem? (i := 196) rfl) rfl, Or.inr ⟨rfl, rfl, rfl⟩⟩
theorem fp_RX12_118 : bk_fp RX12 118 11 83 (.array .long) true := ⟨_, _, _, _, ok_11, by decide, rfl, bk_in6 (List.mem_of_getElem? (i := 197) rfl) rfl, Or.inr ⟨rfl, rfl, rfl⟩⟩
theorem fp_RX12_121 : bk_fp RX12 121 11 84 (.array .int) true := ⟨_, _, _, _, ok_11, by decide, rfl, bk_in6 (List.mem_of_getElem? (i := 198) rfl) rfl, Or.inr ⟨rfl, rfl, rfl⟩⟩
theorem lk_RX12_124 : bk_lk RX12 124 yX12_anew := Or.inl (bk_in6 (List.mem_of_getElem? (i := 102) rfl) rfl)
theorem mc_X12_anew : bk_mc yX12_anew cX12_anew 3 (none : Option FieldType) 0 := ⟨bk_in6 (List.mem_of_getElem? (i := 105) rfl) rfl, bk_in1 (List.mem_of_getElem? (i := 14) rfl) rfl, by decide, by decide, by decide +kernel⟩
theorem mv_X12_anew : bk_mv yX12_anew := ⟨bk_in6 (List.mem_of_getElem? (i := 104) rfl) rfl, bk_inP3 (List.mem_of_getElem? (i := 15) rfl) rfl⟩
theorem fl_RX12_106 : bk_fl RX12 106 11 70 := ⟨_, _, _, _, ok_11, by decide, Or.inl (bk_in6 (List.mem_of_getElem? (i := 184) rfl) rfl)⟩
theorem fl_RX12_342 : bk_fl RX12 342 11 69 := ⟨_, _, _, _, ok_11, by decide, Or.inl (bk_in6 (List.mem_of_getElem? (i := 183) rfl) rfl)⟩
theorem fl_RX12_56 : bk_fl RX12 56 11 22 := ⟨_, _, _, _, ok_11, by decide, Or.inl (bk_in6 (List.mem_of_getElem? (i := 136) rfl) rfl)⟩
theorem lk_RX11_301 : bk_lk RX11 301 yX3_totalBehind := Or.inl (bk_in6 (List.mem_of_getElem? (i := 43) rfl) rfl)
theorem mc_X3_totalBehind : bk_mc yX3_totalBehind cX3_totalBehind 2 (some FieldType.long) 1 := ⟨bk_in6 (List.mem_of_getElem? (i := 46) rfl) rfl, bk_in1 (List.mem_of_getElem? (i := 3) rfl) rfl, by decide, by decide, by decide +kernel⟩
theorem mv_X3_totalBehind : bk_mv yX3_totalBehind := ⟨bk_in6 (List.mem_of_getElem? (i := 44) rfl) rfl, bk_in6 (List.mem_of_getElem? (i := 45) rfl) rfl⟩
theorem kl_RX11_304 : Cond.constantLong RX11 304 1000 ∈ bk_GW := bk_in6 (List.mem_of_getElem? (i := 47) rfl) rfl
theorem fl_RX11_130 : bk_fl RX11 130 4 3 := ⟨_, _, _, _, ok_4, by decide, Or.inl (bk_in1 (List.mem_of_getElem? (i := 199) rfl) rfl)⟩
theorem fl_RX11_134 : bk_fl RX11 134 9 2 := ⟨_, _, _, _, ok_9, by decide, Or.inl (bk_in1 (List.mem_of_getElem? (i := 130) rfl) rfl)⟩
theorem fl_RX11_141 : bk_fl RX11 141 1 4 := ⟨_, _, _, _, ok_1, by decide, Or.inl (bk_in1 (List.mem_of_getElem? (i := 151) rfl) rfl)⟩
theorem fl_RX11_93 : bk_fl RX11 93 10 13 := ⟨_, _, _, _, ok_10, by decide, Or.inl (bk_in2 (List.mem_of_getElem? (i := 105) rfl) rfl)⟩
theorem fl_RX11_118 : bk_fl RX11 118 4 1 := ⟨_, _, _, _, ok_4, by decide, Or.inl (bk_in1 (List.mem_of_getElem? (i := 194) rfl) rfl)⟩
theorem lk_RX11_201 : bk_lk RX11 201 yX5_fullPressure := Or.inl (bk_in2 (List.mem_of_getElem? (i := 217) rfl) rfl)
theorem lk_RX11_364 : bk_lk RX11 364 yX11_pumpedOver := Or.inl (bk_in5 (List.mem_of_getElem? (i := 194) rfl) rfl)
theorem mc_X11_pumpedOver : bk_mc yX11_pumpedOver cX11_pumpedOver 9 (some FieldType.int) 1 := ⟨bk_in5 (List.mem_of_getElem? (i := 197) rfl) rfl, bk_in1 (List.mem_of_getElem? (i := 1) rfl) rfl, by decide, by decide, by decide +kernel⟩
theorem mv_X11_pumpedOver : bk_mv yX11_pumpedOver := ⟨bk_in5 (List.mem_of_getElem? (i := 196) rfl) rfl, bk_inP3 (List.mem_of_getElem? (i := 12) rfl) rfl⟩
theorem lk_RX11_367 : bk_lk RX11 367 yX11_minutesRidden := Or.inl (bk_in5 (List.mem_of_getElem? (i := 198) rfl) rfl)
theorem mc_X11_minutesRidden : bk_mc yX11_minutesRidden cX11_minutesRidden 2 (some FieldType.int) 2 := ⟨bk_in5 (List.mem_of_getElem? (i := 200) rfl) rfl, bk_in1 (List.mem_of_getElem? (i := 1) rfl) rfl, by decide, by decide, by decide +kernel⟩
theorem st_X11_minutesRidden : Cond.static yX11_minutesRidden ∈ bk_GW := bk_in5 (List.mem_of_getElem? (i := 199) rfl) rfl
theorem lk_RX11_228 : bk_lk RX11 228 yX5_hand := Or.inl (bk_in3 (List.mem_of_getElem? (i := 18) rfl) rfl)
theorem lk_RX11_276 : bk_lk RX11 276 yX0_totalOfSide := Or.inl (bk_in6 (List.mem_of_getElem? (i := 62) rfl) rfl)
theorem mc_X0_totalOfSide : bk_mc yX0_totalOfSide cX0_totalOfSide 5 (some FieldType.long) 2 := ⟨bk_in6 (List.mem_of_getElem? (i := 64) rfl) rfl, bk_in1 (List.mem_of_getElem? (i := 12) rfl) rfl, by decide, by decide, by decide +kernel⟩
theorem st_X0_totalOfSide : Cond.static yX0_totalOfSide ∈ bk_GW := bk_in6 (List.mem_of_getElem? (i := 63) rfl) rfl
theorem kl_RX12_432 : Cond.constantLong RX12 432 100000000000000 ∈ bk_GW := bk_in8 (List.mem_of_getElem? (i := 148) rfl) rfl
theorem kl_RX12_434 : Cond.constantLong RX12 434 1000000000000000 ∈ bk_GW := bk_in8 (List.mem_of_getElem? (i := 149) rfl) rfl
theorem lk_RX11_373 : bk_lk RX11 373 yX5_lasts := Or.inl (bk_in6 (List.mem_of_getElem? (i := 90) rfl) rfl)
theorem mc_X5_lasts : bk_mc yX5_lasts cX5_lasts 6 (some FieldType.boolean) 3 := ⟨bk_in6 (List.mem_of_getElem? (i := 93) rfl) rfl, bk_in1 (List.mem_of_getElem? (i := 4) rfl) rfl, by decide, by decide, by decide +kernel⟩
theorem mv_X5_lasts : bk_mv yX5_lasts := ⟨bk_in6 (List.mem_of_getElem? (i := 91) rfl) rfl, bk_in6 (List.mem_of_getElem? (i := 92) rfl) rfl⟩
theorem fl_RX12_109 : bk_fl RX12 109 11 74 := ⟨_, _, _, _, ok_11, by decide, Or.inl (bk_in6 (List.mem_of_getElem? (i := 188) rfl) rfl)⟩
theorem kl_RX12_494 : Cond.constantLong RX12 494 1000000 ∈ bk_GW := bk_in9 (List.mem_of_getElem? (i := 47) rfl) rfl
theorem lk_RX12_496 : bk_lk RX12 496 yX12_causesOf := Or.inl (bk_in9 (List.mem_of_getElem? (i := 43) rfl) rfl)
theorem mc_X12_causesOf : bk_mc yX12_causesOf cX12_causesOf 6 (some FieldType.long) 1 := ⟨bk_in9 (List.mem_of_getElem? (i := 46) rfl) rfl, bk_in1 (List.mem_of_getElem? (i := 14) rfl) rfl, by decide, by decide, by decide +kernel⟩
theorem mv_X12_causesOf : bk_mv yX12_causesOf := ⟨bk_in9 (List.mem_of_getElem? (i := 45) rfl) rfl, bk_inP7 (List.mem_of_getElem? (i := 4) rfl) rfl⟩
theorem lk_RX9_13 : bk_lk RX9 13 yJ9_min_7cf53 := Or.inl (bk_in3 (List.mem_of_getElem? (i := 173) rfl) rfl)
theorem lk_RX9_19 : bk_lk RX9 19 yJ9_max_7cf53 := Or.inl (bk_in3 (List.mem_of_getElem? (i := 174) rfl) rfl)
theorem fp_RX9_22 : bk_fp RX9 22 8 1 .int false := ⟨_, _, _, _, ok_8, by decide, rfl, bk_in1 (List.mem_of_getElem? (i := 239) rfl) rfl, Or.inl rfl⟩
theorem lk_RX9_29 : bk_lk RX9 29 yX9_step := Or.inl (bk_in3 (List.mem_of_getElem? (i := 175) rfl) rfl)
theorem fl_RX8_33 : bk_fl RX8 33 7 4 := ⟨_, _, _, _, ok_7, by decide, Or.inl (bk_in2 (List.mem_of_getElem? (i := 20) rfl) rfl)⟩
theorem lk_RX8_63 : bk_lk RX8 63 yX8_readLine := Or.inl (bk_in4 (List.mem_of_getElem? (i := 30) rfl) rfl)
theorem mc_X8_readLine : bk_mc yX8_readLine cX8_readLine 2 (some FieldType.boolean) 0 := ⟨bk_in4 (List.mem_of_getElem? (i := 33) rfl) rfl, bk_in1 (List.mem_of_getElem? (i := 9) rfl) rfl, by decide, by decide, by decide +kernel⟩
theorem mv_X8_readLine : bk_mv yX8_readLine := ⟨bk_in4 (List.mem_of_getElem? (i := 32) rfl) rfl, bk_inP1 (List.mem_of_getElem? (i := 13) rfl) rfl⟩
theorem lk_RX8_24 : bk_lk RX8 24 yX5_clear := Or.inl (bk_in3 (List.mem_of_getElem? (i := 168) rfl) rfl)
theorem lk_RX8_39 : bk_lk RX8 39 yX9_begin := Or.inl (bk_in3 (List.mem_of_getElem? (i := 169) rfl) rfl)
theorem mc_X9_begin : bk_mc yX9_begin cX9_begin 2 (none : Option FieldType) 1 := ⟨bk_in3 (List.mem_of_getElem? (i := 172) rfl) rfl, bk_in1 (List.mem_of_getElem? (i := 10) rfl) rfl, by decide, by decide, by decide +kernel⟩
theorem mv_X9_begin : bk_mv yX9_begin := ⟨bk_in3 (List.mem_of_getElem? (i := 170) rfl) rfl, bk_in3 (List.mem_of_getElem? (i := 171) rfl) rfl⟩
theorem fl_RX11_23 : bk_fl RX11 23 10 3 := ⟨_, _, _, _, ok_10, by decide, Or.inl (bk_in2 (List.mem_of_getElem? (i := 95) rfl) rfl)⟩
theorem fl_RX11_108 : bk_fl RX11 108 10 11 := ⟨_, _, _, _, ok_10, by decide, Or.inl (bk_in2 (List.mem_of_getElem? (i := 103) rfl) rfl)⟩
theorem lk_RX3_72 : bk_lk RX3 72 yX3_inchIn := Or.inl (bk_in5 (List.mem_of_getElem? (i := 43) rfl) rfl)
theorem lk_RX11_292 : bk_lk RX11 292 yX3_firstStay := Or.inl (bk_in5 (List.mem_of_getElem? (i := 39) rfl) rfl)
theorem mc_X3_firstStay : bk_mc yX3_firstStay cX3_firstStay 3 (some FieldType.int) 0 := ⟨bk_in5 (List.mem_of_getElem? (i := 42) rfl) rfl, bk_in1 (List.mem_of_getElem? (i := 3) rfl) rfl, by decide, by decide, by decide +kernel⟩
theorem mv_X3_firstStay : bk_mv yX3_firstStay := ⟨bk_in5 (List.mem_of_getElem? (i := 40) rfl) rfl, bk_in5 (List.mem_of_getElem? (i := 41) rfl) rfl⟩
theorem fl_RX12_345 : bk_fl RX12 345 11 77 := ⟨_, _, _, _, ok_11, by decide, Or.inl (bk_in6 (List.mem_of_getElem? (i := 191) rfl) rfl)⟩
theorem fl_RX12_514 : bk_fl RX12 514 11 78 := ⟨_, _, _, _, ok_11, by decide, Or.inl (bk_in6 (List.mem_of_getElem? (i := 192) rfl) rfl)⟩
theorem fl_RX12_517 : bk_fl RX12 517 11 79 := ⟨_, _, _, _, ok_11, by decide, Or.inl (bk_in6 (List.mem_of_getElem? (i := 193) rfl) rfl)⟩
theorem fl_RX12_520 : bk_fl RX12 520 11 80 := ⟨_, _, _, _, ok_11, by decide, Or.inl (bk_in6 (List.mem_of_getElem? (i := 194) rfl) rfl)⟩
theorem fl_RX12_523 : bk_fl RX12 523 11 81 := ⟨_, _, _, _, ok_11, by decide, Or.inl (bk_in6 (List.mem_of_getElem? (i := 195) rfl) rfl)⟩
theorem fl_RX12_115 : bk_fl RX12 115 11 82 := ⟨_, _, _, _, ok_11, by decide, Or.inl (bk_in6 (List.mem_of_getElem? (i := 196) rfl) rfl)⟩
theorem lk_RX12_526 : bk_lk RX12 526 yX12_copiesLong := Or.inl (bk_in9 (List.mem_of_getElem? (i := 96) rfl) rfl)
theorem mc_X12_copiesLong : bk_mc yX12_copiesLong cX12_copiesLong 3 (none : Option FieldType) 2 := ⟨bk_in9 (List.mem_of_getElem? (i := 98) rfl) rfl, bk_in1 (List.mem_of_getElem? (i := 14) rfl) rfl, by decide, by decide, by decide +kernel⟩
theorem st_X12_copiesLong : Cond.static yX12_copiesLong ∈ bk_GW := bk_in9 (List.mem_of_getElem? (i := 97) rfl) rfl
theorem fl_RX12_118 : bk_fl RX12 118 11 83 := ⟨_, _, _, _, ok_11, by decide, Or.inl (bk_in6 (List.mem_of_getElem? (i := 197) rfl) rfl)⟩
theorem fl_RX12_121 : bk_fl RX12 121 11 84 := ⟨_, _, _, _, ok_11, by decide, Or.inl (bk_in6 (List.mem_of_getElem? (i := 198) rfl) rfl)⟩
theorem lk_RX12_338 : bk_lk RX12 338 yX12_copies := Or.inl (bk_in8 (List.mem_of_getElem? (i := 25) rfl) rfl)
theorem mc_X12_copies : bk_mc yX12_copies cX12_copies 4 (none : Option FieldType) 2 := ⟨bk_in8 (List.mem_of_getElem? (i := 28) rfl) rfl, bk_in1 (List.mem_of_getElem? (i := 14) rfl) rfl, by decide, by decide, by decide +kernel⟩
theorem mv_X12_copies : bk_mv yX12_copies := ⟨bk_in8 (List.mem_of_getElem? (i := 27) rfl) rfl, bk_inP5 (List.mem_of_getElem? (i := 11) rfl) rfl⟩
theorem fl_RX12_277 : bk_fl RX12 277 11 33 := ⟨_, _, _, _, ok_11, by decide, Or.inl (bk_in6 (List.mem_of_getElem? (i := 147) rfl) rfl)⟩
theorem fl_RX12_280 : bk_fl RX12 280 11 34 := ⟨_, _, _, _, ok_11, by decide, Or.inl (bk_in6 (List.mem_of_getElem? (i := 148) rfl) rfl)⟩
theorem fl_RX12_283 : bk_fl RX12 283 11 35 := ⟨_, _, _, _, ok_11, by decide, Or.inl (bk_in6 (List.mem_of_getElem? (i := 149) rfl) rfl)⟩
theorem fl_RX12_286 : bk_fl RX12 286 11 36 := ⟨_, _, _, _, ok_11, by decide, Or.inl (bk_in6 (List.mem_of_getElem? (i := 150) rfl) rfl)⟩
theorem fl_RX12_289 : bk_fl RX12 289 11 37 := ⟨_, _, _, _, ok_11, by decide, Or.inl (bk_in6 (List.mem_of_getElem? (i := 151) rfl) rfl)⟩
theorem fp_RX12_326 : bk_fp RX12 326 11 6 .int false := ⟨_, _, _, _, ok_11, by decide, rfl, bk_in6 (List.mem_of_getElem? (i := 120) rfl) rfl, Or.inl rfl⟩
theorem fl_RX12_292 : bk_fl RX12 292 11 38 := ⟨_, _, _, _, ok_11, by decide, Or.inl (bk_in6 (List.mem_of_getElem? (i := 152) rfl) rfl)⟩
theorem fl_RX12_295 : bk_fl RX12 295 11 39 := ⟨_, _, _, _, ok_11, by decide, Or.inl (bk_in6 (List.mem_of_getElem? (i := 153) rfl) rfl)⟩
theorem fp_RX12_329 : bk_fp RX12 329 11 9 .int false := ⟨_, _, _, _, ok_11, by decide, rfl, bk_in6 (List.mem_of_getElem? (i := 123) rfl) rfl, Or.inl rfl⟩
theorem fp_RX12_332 : bk_fp RX12 332 11 10 .int false := ⟨_, _, _, _, ok_11, by decide, rfl, bk_in6 (List.mem_of_getElem? (i := 124) rfl) rfl, Or.inl rfl⟩
theorem fp_RX12_335 : bk_fp RX12 335 11 11 .int false := ⟨_, _, _, _, ok_11, by decide, rfl, bk_in6 (List.mem_of_getElem? (i := 125) rfl) rfl, Or.inl rfl⟩
theorem fl_RX12_310 : bk_fl RX12 310 11 43 := ⟨_, _, _, _, ok_11, by decide, Or.inl (bk_in6 (List.mem_of_getElem? (i := 157) rfl) rfl)⟩
theorem fl_RX12_307 : bk_fl RX12 307 11 44 := ⟨_, _, _, _, ok_11, by decide, Or.inl (bk_in6 (List.mem_of_getElem? (i := 158) rfl) rfl)⟩
theorem fp_RX12_342 : bk_fp RX12 342 11 69 .boolean false := ⟨_, _, _, _, ok_11, by decide, rfl, bk_in6 (List.mem_of_getElem? (i := 183) rfl) rfl, Or.inl rfl⟩
theorem fp_RX12_345 : bk_fp RX12 345 11 77 .boolean false := ⟨_, _, _, _, ok_11, by decide, rfl, bk_in6 (List.mem_of_getElem? (i := 191) rfl) rfl, Or.inl rfl⟩
theorem lk_RX12_323 : bk_lk RX12 323 yX12_line0 := Or.inl (bk_in7 (List.mem_of_getElem? (i := 199) rfl) rfl)
theorem mc_X12_line0 : bk_mc yX12_line0 cX12_line0 2 (none : Option FieldType) 0 := ⟨bk_in7 (List.mem_of_getElem? (i := 202) rfl) rfl, bk_in1 (List.mem_of_getElem? (i := 14) rfl) rfl, by decide, by decide, by decide +kernel⟩
theorem mv_X12_line0 : bk_mv yX12_line0 := ⟨bk_in7 (List.mem_of_getElem? (i := 201) rfl) rfl, bk_inP4 (List.mem_of_getElem? (i := 12) rfl) rfl⟩
theorem fp_RX12_137 : bk_fp RX12 137 11 24 .int false := ⟨_, _, _, _, ok_11, by decide, rfl, bk_in6 (List.mem_of_getElem? (i := 138) rfl) rfl, Or.inl rfl⟩
theorem lk_RX12_320 : bk_lk RX12 320 yX12_asWithout := Or.inl (bk_in7 (List.mem_of_getElem? (i := 150) rfl) rfl)
theorem mc_X12_asWithout : bk_mc yX12_asWithout cX12_asWithout 1 (none : Option FieldType) 0 := ⟨bk_in7 (List.mem_of_getElem? (i := 153) rfl) rfl, bk_in1 (List.mem_of_getElem? (i := 14) rfl) rfl, by decide, by decide, by decide +kernel⟩
theorem mv_X12_asWithout : bk_mv yX12_asWithout := ⟨bk_in7 (List.mem_of_getElem? (i := 152) rfl) rfl, bk_inP4 (List.mem_of_getElem? (i := 3) rfl) rfl⟩
theorem kl_RX0_27 : Cond.constantLong RX0 27 10 ∈ bk_GW := bk_in3 (List.mem_of_getElem? (i := 63) rfl) rfl
theorem kl_RX0_29 : Cond.constantLong RX0 29 1000000000000000 ∈ bk_GW := bk_in3 (List.mem_of_getElem? (i := 64) rfl) rfl
theorem lk_RX0_31 : bk_lk RX0 31 yJ9_min_f86c9 := Or.inl (bk_in3 (List.mem_of_getElem? (i := 65) rfl) rfl)
theorem mc_J9_min_f86c9 : bk_mc yJ9_min_f86c9 cJ9_min_f86c9 4 (some FieldType.long) 2 := ⟨bk_in3 (List.mem_of_getElem? (i := 67) rfl) rfl, bk_in1 (List.mem_of_getElem? (i := 13) rfl) rfl, by decide, by decide, by decide +kernel⟩
theorem st_J9_min_f86c9 : Cond.static yJ9_min_f86c9 ∈ bk_GW := bk_in3 (List.mem_of_getElem? (i := 66) rfl) rfl
theorem lk_RX11_257 : bk_lk RX11 257 yX0_raiseOuter := Or.inl (bk_in3 (List.mem_of_getElem? (i := 60) rfl) rfl)
theorem mc_X0_raiseOuter : bk_mc yX0_raiseOuter cX0_raiseOuter 3 (none : Option FieldType) 2 := ⟨bk_in3 (List.mem_of_getElem? (i := 62) rfl) rfl, bk_in1 (List.mem_of_getElem? (i := 12) rfl) rfl, by decide, by decide, by decide +kernel⟩
theorem st_X0_raiseOuter : Cond.static yX0_raiseOuter ∈ bk_GW := bk_in3 (List.mem_of_getElem? (i := 61) rfl) rfl
theorem fl_RX11_27 : bk_fl RX11 27 10 4 := ⟨_, _, _, _, ok_10, by decide, Or.inl (bk_in2 (List.mem_of_getElem? (i := 96) rfl) rfl)⟩
theorem lk_RX11_376 : bk_lk RX11 376 yX10_putInOrder := Or.inl (bk_in5 (List.mem_of_getElem? (i := 220) rfl) rfl)
theorem mc_X10_putInOrder : bk_mc yX10_putInOrder cX10_putInOrder 4 (none : Option FieldType) 1 := ⟨bk_in5 (List.mem_of_getElem? (i := 223) rfl) rfl, bk_in1 (List.mem_of_getElem? (i := 6) rfl) rfl, by decide, by decide, by decide +kernel⟩
theorem mv_X10_putInOrder : bk_mv yX10_putInOrder := ⟨bk_in5 (List.mem_of_getElem? (i := 221) rfl) rfl, bk_in5 (List.mem_of_getElem? (i := 222) rfl) rfl⟩
theorem fl_RX11_204 : bk_fl RX11 204 5 0 := ⟨_, _, _, _, ok_5, by decide, Or.inl (bk_in2 (List.mem_of_getElem? (i := 72) rfl) rfl)⟩
theorem lk_RX11_360 : bk_lk RX11 360 yX5_weightOfCause := Or.inl (bk_in5 (List.mem_of_getElem? (i := 175) rfl) rfl)
theorem mc_X5_weightOfCause : bk_mc yX5_weightOfCause cX5_weightOfCause 5 (some FieldType.long) 2 := ⟨bk_in5 (List.mem_of_getElem? (i := 178) rfl) rfl, bk_in1 (List.mem_of_getElem? (i := 4) rfl) rfl, by decide, by decide, by decide +kernel⟩
theorem mv_X5_weightOfCause : bk_mv yX5_weightOfCause := ⟨bk_in5 (List.mem_of_getElem? (i := 176) rfl) rfl, bk_in5 (List.mem_of_getElem? (i := 177) rfl) rfl⟩
theorem lk_RX12_505 : bk_lk RX12 505 yX12_orders := Or.inl (bk_in9 (List.mem_of_getElem? (i := 68) rfl) rfl)
theorem mc_X12_orders : bk_mc yX12_orders cX12_orders 3 (none : Option FieldType) 0 := ⟨bk_in9 (List.mem_of_getElem? (i := 71) rfl) rfl, bk_in1 (List.mem_of_getElem? (i := 14) rfl) rfl, by decide, by decide, by decide +kernel⟩
theorem mv_X12_orders : bk_mv yX12_orders := ⟨bk_in9 (List.mem_of_getElem? (i := 70) rfl) rfl, bk_inP7 (List.mem_of_getElem? (i := 6) rfl) rfl⟩
theorem fl_RX11_102 : bk_fl RX11 102 10 9 := ⟨_, _, _, _, ok_10, by decide, Or.inl (bk_in2 (List.mem_of_getElem? (i := 101) rfl) rfl)⟩
theorem fl_RX11_105 : bk_fl RX11 105 10 10 := ⟨_, _, _, _, ok_10, by decide, Or.inl (bk_in2 (List.mem_of_getElem? (i := 102) rfl) rfl)⟩
theorem lk_RX11_295 : bk_lk RX11 295 yJ7_fill_53178 := Or.inl (bk_in5 (List.mem_of_getElem? (i := 51) rfl) rfl)
theorem mc_J7_fill_53178 : bk_mc yJ7_fill_53178 cJ7_fill_53178 4 (none : Option FieldType) 2 := ⟨bk_in5 (List.mem_of_getElem? (i := 53) rfl) rfl, bk_in1 (List.mem_of_getElem? (i := 25) rfl) rfl, by decide, by decide, by decide +kernel⟩
theorem st_J7_fill_53178 : Cond.static yJ7_fill_53178 ∈ bk_GW := bk_in5 (List.mem_of_getElem? (i := 52) rfl) rfl
theorem fp_RX11_75 : bk_fp RX11 75 6 1 .int false := ⟨_, _, _, _, ok_6, by decide, rfl, bk_in1 (List.mem_of_getElem? (i := 43) rfl) rfl, Or.inl rfl⟩
theorem fl_RX11_53 : bk_fl RX11 53 10 2 := ⟨_, _, _, _, ok_10, by decide, Or.inl (bk_in2 (List.mem_of_getElem? (i := 94) rfl) rfl)⟩
theorem lk_RX11_86 : bk_lk RX11 86 yX8_tell := Or.inl (bk_in3 (List.mem_of_getElem? (i := 164) rfl) rfl)
theorem mc_X8_tell : bk_mc yX8_tell cX8_tell 4 (some FieldType.int) 2 := ⟨bk_in3 (List.mem_of_getElem? (i := 167) rfl) rfl, bk_in1 (List.mem_of_getElem? (i := 9) rfl) rfl, by decide, by decide, by decide +kernel⟩
theorem mv_X8_tell : bk_mv yX8_tell := ⟨bk_in3 (List.mem_of_getElem? (i := 165) rfl) rfl, bk_in3 (List.mem_of_getElem? (i := 166) rfl) rfl⟩
theorem lk_RX11_96 : bk_lk RX11 96 yX11_beginAnew := Or.inl (bk_in4 (List.mem_of_getElem? (i := 167) rfl) rfl)
theorem mc_X11_beginAnew : bk_mc yX11_beginAnew cX11_beginAnew 2 (none : Option FieldType) 0 := ⟨bk_in4 (List.mem_of_getElem? (i := 170) rfl) rfl, bk_in1 (List.mem_of_getElem? (i := 1) rfl) rfl, by decide, by decide, by decide +kernel⟩
theorem mv_X11_beginAnew : bk_mv yX11_beginAnew := ⟨bk_in4 (List.mem_of_getElem? (i := 169) rfl) rfl, bk_inP3 (List.mem_of_getElem? (i := 0) rfl) rfl⟩
theorem fl_RX11_90 : bk_fl RX11 90 7 5 := ⟨_, _, _, _, ok_7, by decide, Or.inr ⟨"BucketTube", by decide +kernel⟩⟩
theorem fp_RX11_93 : bk_fp RX11 93 10 13 .int false := ⟨_, _, _, _, ok_10, by decide, rfl, bk_in2 (List.mem_of_getElem? (i := 105) rfl) rfl, Or.inl rfl⟩
theorem fl_RX11_380 : bk_fl RX11 380 9 0 := ⟨_, _, _, _, ok_9, by decide, Or.inl (bk_in1 (List.mem_of_getElem? (i := 125) rfl) rfl)⟩
theorem fl_RX11_383 : bk_fl RX11 383 9 1 := ⟨_, _, _, _, ok_9, by decide, Or.inl (bk_in1 (List.mem_of_getElem? (i := 127) rfl) rfl)⟩
theorem lk_RX12_133 : bk_lk RX12 133 yX12_lays := Or.inl (bk_in7 (List.mem_of_getElem? (i := 138) rfl) rfl)
theorem mc_X12_lays : bk_mc yX12_lays cX12_lays 3 (none : Option FieldType) 1 := ⟨bk_in7 (List.mem_of_getElem? (i := 141) rfl) rfl, bk_in1 (List.mem_of_getElem? (i := 14) rfl) rfl, by decide, by decide, by decide +kernel⟩
theorem mv_X12_lays : bk_mv yX12_lays := ⟨bk_in7 (List.mem_of_getElem? (i := 140) rfl) rfl, bk_inP4 (List.mem_of_getElem? (i := 1) rfl) rfl⟩
theorem lk_RX5_145 : bk_lk RX5 145 yX5_glueFor := Or.inl (bk_in5 (List.mem_of_getElem? (i := 212) rfl) rfl)
theorem lk_RX11_370 : bk_lk RX11 370 yX5_glueForAll := Or.inl (bk_in5 (List.mem_of_getElem? (i := 208) rfl) rfl)
theorem mc_X5_glueForAll : bk_mc yX5_glueForAll cX5_glueForAll 8 (some FieldType.int) 4 := ⟨bk_in5 (List.mem_of_getElem? (i := 211) rfl) rfl, bk_in1 (List.mem_of_getElem? (i := 4) rfl) rfl, by decide, by decide, by decide +kernel⟩
theorem mv_X5_glueForAll : bk_mv yX5_glueForAll := ⟨bk_in5 (List.mem_of_getElem? (i := 209) rfl) rfl, bk_in5 (List.mem_of_getElem? (i := 210) rfl) rfl⟩
theorem fl_RX11_166 : bk_fl RX11 166 0 1 := ⟨_, _, _, _, ok_0, by decide, Or.inl (bk_in1 (List.mem_of_getElem? (i := 97) rfl) rfl)⟩
theorem fl_RX11_169 : bk_fl RX11 169 0 2 := ⟨_, _, _, _, ok_0, by decide, Or.inl (bk_in1 (List.mem_of_getElem? (i := 100) rfl) rfl)⟩
theorem fp_RX12_514 : bk_fp RX12 514 11 78 .int false := ⟨_, _, _, _, ok_11, by decide, rfl, bk_in6 (List.mem_of_getElem? (i := 192) rfl) rfl, Or.inl rfl⟩
theorem fp_RX12_517 : bk_fp RX12 517 11 79 .int false := ⟨_, _, _, _, ok_11, by decide, rfl, bk_in6 (List.mem_of_getElem? (i := 193) rfl) rfl, Or.inl rfl⟩
theorem fp_RX12_520 : bk_fp RX12 520 11 80 .int false := ⟨_, _, _, _, ok_11, by decide, rfl, bk_in6 (List.mem_of_getElem? (i := 194) rfl) rfl, Or.inl rfl⟩
theorem fp_RX12_523 : bk_fp RX12 523 11 81 .int false := ⟨_, _, _, _, ok_11, by decide, rfl, bk_in6 (List.mem_of_getElem? (i := 195) rfl) rfl, Or.inl rfl⟩
