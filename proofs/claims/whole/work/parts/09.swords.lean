theorem mc_J0_length_8abf5 : bk_mc yJ0_length_8abf5 cJ0_length_8abf5 1 (some FieldType.int) 0 := ⟨bk_in3 (List.mem_of_getElem? (i := 190) rfl) rfl, bk_in1 (List.mem_of_getElem? (i := 19) rfl) rfl, by decide, by decide, by decide +kernel⟩
theorem mv_J0_length_8abf5 : bk_mv yJ0_length_8abf5 := ⟨bk_in3 (List.mem_of_getElem? (i := 188) rfl) rfl, bk_in3 (List.mem_of_getElem? (i := 189) rfl) rfl⟩
theorem mc_J0_charAt_5068e : bk_mc yJ0_charAt_5068e cJ0_charAt_5068e 2 (some FieldType.char) 1 := ⟨bk_in3 (List.mem_of_getElem? (i := 200) rfl) rfl, bk_in1 (List.mem_of_getElem? (i := 19) rfl) rfl, by decide, by decide, by decide +kernel⟩
theorem mv_J0_charAt_5068e : bk_mv yJ0_charAt_5068e := ⟨bk_in3 (List.mem_of_getElem? (i := 198) rfl) rfl, bk_in3 (List.mem_of_getElem? (i := 199) rfl) rfl⟩
theorem mc_J0_coder_7d493 : bk_mc yJ0_coder_7d493 cJ0_coder_7d493 1 (some FieldType.byte) 0 := ⟨bk_in3 (List.mem_of_getElem? (i := 194) rfl) rfl, bk_in1 (List.mem_of_getElem? (i := 19) rfl) rfl, by decide, by decide, by decide +kernel⟩
theorem mv_J0_coder_7d493 : bk_mv yJ0_coder_7d493 := ⟨bk_in3 (List.mem_of_getElem? (i := 192) rfl) rfl, bk_in3 (List.mem_of_getElem? (i := 193) rfl) rfl⟩
theorem mc_J0_isLatin1_aae02 : bk_mc yJ0_isLatin1_aae02 cJ0_isLatin1_aae02 1 (some FieldType.boolean) 0 := ⟨bk_in3 (List.mem_of_getElem? (i := 204) rfl) rfl, bk_in1 (List.mem_of_getElem? (i := 19) rfl) rfl, by decide, by decide, by decide +kernel⟩
theorem mv_J0_isLatin1_aae02 : bk_mv yJ0_isLatin1_aae02 := ⟨bk_in3 (List.mem_of_getElem? (i := 202) rfl) rfl, bk_in3 (List.mem_of_getElem? (i := 203) rfl) rfl⟩
theorem mc_J0_checkIndex_df160 : bk_mc yJ0_checkIndex_df160 cJ0_checkIndex_df160 2 (none : Option FieldType) 2 := ⟨bk_in3 (List.mem_of_getElem? (i := 210) rfl) rfl, bk_in1 (List.mem_of_getElem? (i := 19) rfl) rfl, by decide, by decide, by decide +kernel⟩
theorem st_J0_checkIndex_df160 : Cond.static yJ0_checkIndex_df160 ∈ bk_GW := bk_in3 (List.mem_of_getElem? (i := 209) rfl) rfl
theorem mc_J1_charAt_3b067 : bk_mc yJ1_charAt_3b067 cJ1_charAt_3b067 2 (some FieldType.char) 2 := ⟨bk_in3 (List.mem_of_getElem? (i := 207) rfl) rfl, bk_in1 (List.mem_of_getElem? (i := 20) rfl) rfl, by decide, by decide, by decide +kernel⟩
theorem st_J1_charAt_3b067 : Cond.static yJ1_charAt_3b067 ∈ bk_GW := bk_in3 (List.mem_of_getElem? (i := 206) rfl) rfl
theorem mc_J3_checkIndex_8e157 : bk_mc yJ3_checkIndex_8e157 cJ3_checkIndex_8e157 3 (some FieldType.int) 3 := ⟨bk_in3 (List.mem_of_getElem? (i := 215) rfl) rfl, bk_in1 (List.mem_of_getElem? (i := 21) rfl) rfl, by decide, by decide, by decide +kernel⟩
theorem st_J3_checkIndex_8e157 : Cond.static yJ3_checkIndex_8e157 ∈ bk_GW := bk_in3 (List.mem_of_getElem? (i := 214) rfl) rfl
theorem sf_value : Cond.fieldLink RJ0 9 "java/lang/String" "value" "[B" ∈ bk_GW := bk_in9 (List.mem_of_getElem? (i := 120) rfl) rfl
theorem sf_coder : Cond.fieldLink RJ0 15 "java/lang/String" "coder" "B" ∈ bk_GW := bk_in9 (List.mem_of_getElem? (i := 121) rfl) rfl
theorem sf_compact : Cond.fieldLink RJ0 38 "java/lang/String" "COMPACT_STRINGS" "Z" ∈ bk_GW := bk_in3 (List.mem_of_getElem? (i := 195) rfl) rfl
theorem sf_sioobe : Cond.fieldLink RJ0 1053 "jdk/internal/util/Preconditions" "SIOOBE_FORMATTER" "Ljava/util/function/BiFunction;" ∈ bk_GW := bk_in3 (List.mem_of_getElem? (i := 211) rfl) rfl
theorem sl_coder : Cond.methodLink RJ0 335 yJ0_coder_7d493 ∈ bk_GW := bk_in3 (List.mem_of_getElem? (i := 191) rfl) rfl
theorem sl_latin : Cond.methodLink RJ0 492 yJ0_isLatin1_aae02 ∈ bk_GW := bk_in3 (List.mem_of_getElem? (i := 201) rfl) rfl
theorem sl_l1 : Cond.methodLink RJ0 495 yJ1_charAt_3b067 ∈ bk_GW := bk_in3 (List.mem_of_getElem? (i := 205) rfl) rfl
theorem sl_check : Cond.methodLink RJ1 9 yJ0_checkIndex_df160 ∈ bk_GW := bk_in3 (List.mem_of_getElem? (i := 208) rfl) rfl
theorem sl_pre : Cond.methodLink RJ0 1059 yJ3_checkIndex_8e157 ∈ bk_GW := bk_in3 (List.mem_of_getElem? (i := 213) rfl) rfl
theorem sl_len : Cond.methodLink RX9 42 yJ0_length_8abf5 ∈ bk_GW := bk_in3 (List.mem_of_getElem? (i := 187) rfl) rfl
theorem sl_chr : Cond.methodLink RX9 47 yJ0_charAt_5068e ∈ bk_GW := bk_in3 (List.mem_of_getElem? (i := 197) rfl) rfl
