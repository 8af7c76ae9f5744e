theorem dX12_hoursOf_0 : decode cX12_hoursOf 0 = .ok (.iconst 0, 1) := by decide +kernel
theorem dX12_hoursOf_1 : decode cX12_hoursOf 1 = .ok (.istore_n 2, 1) := by decide +kernel
theorem dX12_hoursOf_2 : decode cX12_hoursOf 2 = .ok (.iconst 0, 1) := by decide +kernel
theorem dX12_hoursOf_3 : decode cX12_hoursOf 3 = .ok (.istore_n 3, 1) := by decide +kernel
theorem dX12_hoursOf_4 : decode cX12_hoursOf 4 = .ok (.iload_n 3, 1) := by decide +kernel
theorem dX12_hoursOf_5 : decode cX12_hoursOf 5 = .ok (.bipush 24, 2) := by decide +kernel
theorem dX12_hoursOf_7 : decode cX12_hoursOf 7 = .ok (.if_icmp .ge 26, 3) := by decide +kernel
theorem dX12_hoursOf_10 : decode cX12_hoursOf 10 = .ok (.iload_n 2, 1) := by decide +kernel
theorem dX12_hoursOf_11 : decode cX12_hoursOf 11 = .ok (.aload_n 0, 1) := by decide +kernel
theorem dX12_hoursOf_12 : decode cX12_hoursOf 12 = .ok (.iload_n 1, 1) := by decide +kernel
theorem dX12_hoursOf_13 : decode cX12_hoursOf 13 = .ok (.iload_n 3, 1) := by decide +kernel
theorem dX12_hoursOf_14 : decode cX12_hoursOf 14 = .ok (.invokevirtual 508, 3) := by decide +kernel
theorem dX12_hoursOf_17 : decode cX12_hoursOf 17 = .ok (.ifCond .eq 7, 3) := by decide +kernel
theorem dX12_hoursOf_20 : decode cX12_hoursOf 20 = .ok (.iconst 1, 1) := by decide +kernel
theorem dX12_hoursOf_21 : decode cX12_hoursOf 21 = .ok (.goto 4, 3) := by decide +kernel
theorem dX12_hoursOf_24 : decode cX12_hoursOf 24 = .ok (.iconst 0, 1) := by decide +kernel
theorem dX12_hoursOf_25 : decode cX12_hoursOf 25 = .ok (.iadd, 1) := by decide +kernel
theorem dX12_hoursOf_26 : decode cX12_hoursOf 26 = .ok (.istore_n 2, 1) := by decide +kernel
theorem dX12_hoursOf_27 : decode cX12_hoursOf 27 = .ok (.iinc 3 1, 3) := by decide +kernel
theorem dX12_hoursOf_30 : decode cX12_hoursOf 30 = .ok (.goto (-26), 3) := by decide +kernel
theorem dX12_hoursOf_33 : decode cX12_hoursOf 33 = .ok (.iload_n 2, 1) := by decide +kernel
theorem dX12_hoursOf_34 : decode cX12_hoursOf 34 = .ok (.ireturn, 1) := by decide +kernel
theorem dX12_tacks_0 : decode cX12_tacks 0 = .ok (.aload_n 0, 1) := by decide +kernel
theorem dX12_tacks_1 : decode cX12_tacks 1 = .ok (.iconst 0, 1) := by decide +kernel
theorem dX12_tacks_2 : decode cX12_tacks 2 = .ok (.putfield 127, 3) := by decide +kernel
theorem dX12_tacks_5 : decode cX12_tacks 5 = .ok (.aload_n 0, 1) := by decide +kernel
theorem dX12_tacks_6 : decode cX12_tacks 6 = .ok (.iload_n 1, 1) := by decide +kernel
theorem dX12_tacks_7 : decode cX12_tacks 7 = .ok (.iconst 2, 1) := by decide +kernel
theorem dX12_tacks_8 : decode cX12_tacks 8 = .ok (.invokevirtual 364, 3) := by decide +kernel
theorem dX12_tacks_11 : decode cX12_tacks 11 = .ok (.ifCond .ne 5, 3) := by decide +kernel
theorem dX12_tacks_14 : decode cX12_tacks 14 = .ok (.iconst 0, 1) := by decide +kernel
theorem dX12_tacks_15 : decode cX12_tacks 15 = .ok (.ireturn, 1) := by decide +kernel
theorem dX12_tacks_16 : decode cX12_tacks 16 = .ok (.iconst 0, 1) := by decide +kernel
theorem dX12_tacks_17 : decode cX12_tacks 17 = .ok (.istore_n 2, 1) := by decide +kernel
theorem dX12_tacks_18 : decode cX12_tacks 18 = .ok (.iconst (-1), 1) := by decide +kernel
theorem dX12_tacks_19 : decode cX12_tacks 19 = .ok (.istore_n 3, 1) := by decide +kernel
theorem dX12_tacks_20 : decode cX12_tacks 20 = .ok (.bipush 39, 2) := by decide +kernel
theorem dX12_tacks_22 : decode cX12_tacks 22 = .ok (.istore 4, 2) := by decide +kernel
theorem dX12_tacks_24 : decode cX12_tacks 24 = .ok (.iload 4, 2) := by decide +kernel
theorem dX12_tacks_26 : decode cX12_tacks 26 = .ok (.ifCond .lt 30, 3) := by decide +kernel
theorem dX12_tacks_29 : decode cX12_tacks 29 = .ok (.aload_n 0, 1) := by decide +kernel
theorem dX12_tacks_30 : decode cX12_tacks 30 = .ok (.iload 4, 2) := by decide +kernel
theorem dX12_tacks_32 : decode cX12_tacks 32 = .ok (.invokevirtual 511, 3) := by decide +kernel
theorem dX12_tacks_35 : decode cX12_tacks 35 = .ok (.istore 5, 2) := by decide +kernel
theorem dX12_tacks_37 : decode cX12_tacks 37 = .ok (.iload_n 2, 1) := by decide +kernel
theorem dX12_tacks_38 : decode cX12_tacks 38 = .ok (.iload 5, 2) := by decide +kernel
theorem dX12_tacks_40 : decode cX12_tacks 40 = .ok (.iadd, 1) := by decide +kernel
theorem dX12_tacks_41 : decode cX12_tacks 41 = .ok (.istore_n 2, 1) := by decide +kernel
theorem dX12_tacks_42 : decode cX12_tacks 42 = .ok (.iload 5, 2) := by decide +kernel
theorem dX12_tacks_44 : decode cX12_tacks 44 = .ok (.ifCond .le 6, 3) := by decide +kernel
theorem dX12_tacks_47 : decode cX12_tacks 47 = .ok (.iload 4, 2) := by decide +kernel
theorem dX12_tacks_49 : decode cX12_tacks 49 = .ok (.istore_n 3, 1) := by decide +kernel
theorem dX12_tacks_50 : decode cX12_tacks 50 = .ok (.iinc 4 (-1), 3) := by decide +kernel
theorem dX12_tacks_53 : decode cX12_tacks 53 = .ok (.goto (-29), 3) := by decide +kernel
theorem dX12_tacks_56 : decode cX12_tacks 56 = .ok (.iload_n 1, 1) := by decide +kernel
theorem dX12_tacks_57 : decode cX12_tacks 57 = .ok (.iconst 2, 1) := by decide +kernel
theorem dX12_tacks_58 : decode cX12_tacks 58 = .ok (.if_icmp .lt 8, 3) := by decide +kernel
theorem dX12_tacks_61 : decode cX12_tacks 61 = .ok (.iload_n 3, 1) := by decide +kernel
theorem dX12_tacks_62 : decode cX12_tacks 62 = .ok (.iconst (-1), 1) := by decide +kernel
theorem dX12_tacks_63 : decode cX12_tacks 63 = .ok (.if_icmp .ne 13, 3) := by decide +kernel
theorem dX12_tacks_66 : decode cX12_tacks 66 = .ok (.iload_n 1, 1) := by decide +kernel
theorem dX12_tacks_67 : decode cX12_tacks 67 = .ok (.ifCond .ne 7, 3) := by decide +kernel
theorem dX12_tacks_70 : decode cX12_tacks 70 = .ok (.iload_n 2, 1) := by decide +kernel
theorem dX12_tacks_71 : decode cX12_tacks 71 = .ok (.goto 4, 3) := by decide +kernel
theorem dX12_tacks_74 : decode cX12_tacks 74 = .ok (.iload_n 3, 1) := by decide +kernel
theorem dX12_tacks_75 : decode cX12_tacks 75 = .ok (.ireturn, 1) := by decide +kernel
theorem dX12_tacks_76 : decode cX12_tacks 76 = .ok (.iconst 0, 1) := by decide +kernel
theorem dX12_tacks_77 : decode cX12_tacks 77 = .ok (.istore 4, 2) := by decide +kernel
theorem dX12_tacks_79 : decode cX12_tacks 79 = .ok (.aload_n 0, 1) := by decide +kernel
theorem dX12_tacks_80 : decode cX12_tacks 80 = .ok (.iload_n 3, 1) := by decide +kernel
theorem dX12_tacks_81 : decode cX12_tacks 81 = .ok (.iload 4, 2) := by decide +kernel
theorem dX12_tacks_83 : decode cX12_tacks 83 = .ok (.invokevirtual 508, 3) := by decide +kernel
theorem dX12_tacks_86 : decode cX12_tacks 86 = .ok (.ifCond .ne 9, 3) := by decide +kernel
theorem dX12_tacks_89 : decode cX12_tacks 89 = .ok (.iinc 4 1, 3) := by decide +kernel
theorem dX12_tacks_92 : decode cX12_tacks 92 = .ok (.goto (-13), 3) := by decide +kernel
theorem dX12_tacks_95 : decode cX12_tacks 95 = .ok (.iload 4, 2) := by decide +kernel
theorem dX12_tacks_97 : decode cX12_tacks 97 = .ok (.ireturn, 1) := by decide +kernel
theorem dX12_cell_0 : decode cX12_cell 0 = .ok (.aload_n 0, 1) := by decide +kernel
theorem dX12_cell_1 : decode cX12_cell 1 = .ok (.iconst 0, 1) := by decide +kernel
theorem dX12_cell_2 : decode cX12_cell 2 = .ok (.putfield 127, 3) := by decide +kernel
theorem dX12_cell_5 : decode cX12_cell 5 = .ok (.aload_n 0, 1) := by decide +kernel
theorem dX12_cell_6 : decode cX12_cell 6 = .ok (.iload_n 1, 1) := by decide +kernel
theorem dX12_cell_7 : decode cX12_cell 7 = .ok (.ifCond .lt 13, 3) := by decide +kernel
theorem dX12_cell_10 : decode cX12_cell 10 = .ok (.iload_n 1, 1) := by decide +kernel
theorem dX12_cell_11 : decode cX12_cell 11 = .ok (.bipush 40, 2) := by decide +kernel
theorem dX12_cell_13 : decode cX12_cell 13 = .ok (.if_icmp .ge 7, 3) := by decide +kernel
theorem dX12_cell_16 : decode cX12_cell 16 = .ok (.iconst 1, 1) := by decide +kernel
theorem dX12_cell_17 : decode cX12_cell 17 = .ok (.goto 4, 3) := by decide +kernel
theorem dX12_cell_20 : decode cX12_cell 20 = .ok (.iconst 0, 1) := by decide +kernel
theorem dX12_cell_21 : decode cX12_cell 21 = .ok (.iconst 1, 1) := by decide +kernel
theorem dX12_cell_22 : decode cX12_cell 22 = .ok (.invokevirtual 316, 3) := by decide +kernel
theorem dX12_cell_25 : decode cX12_cell 25 = .ok (.ifCond .eq 11, 3) := by decide +kernel
theorem dX12_cell_28 : decode cX12_cell 28 = .ok (.aload_n 0, 1) := by decide +kernel
theorem dX12_cell_29 : decode cX12_cell 29 = .ok (.iload_n 1, 1) := by decide +kernel
theorem dX12_cell_30 : decode cX12_cell 30 = .ok (.invokevirtual 511, 3) := by decide +kernel
theorem dX12_cell_33 : decode cX12_cell 33 = .ok (.goto 4, 3) := by decide +kernel
theorem dX12_cell_36 : decode cX12_cell 36 = .ok (.iconst 0, 1) := by decide +kernel
theorem dX12_cell_37 : decode cX12_cell 37 = .ok (.ireturn, 1) := by decide +kernel
theorem dX12_copiesLong_0 : decode cX12_copiesLong 0 = .ok (.iconst 0, 1) := by decide +kernel
theorem dX12_copiesLong_1 : decode cX12_copiesLong 1 = .ok (.istore_n 2, 1) := by decide +kernel
theorem dX12_copiesLong_2 : decode cX12_copiesLong 2 = .ok (.iload_n 2, 1) := by decide +kernel
theorem dX12_copiesLong_3 : decode cX12_copiesLong 3 = .ok (.aload_n 0, 1) := by decide +kernel
theorem dX12_copiesLong_4 : decode cX12_copiesLong 4 = .ok (.arraylength, 1) := by decide +kernel
theorem dX12_copiesLong_5 : decode cX12_copiesLong 5 = .ok (.if_icmp .ge 15, 3) := by decide +kernel
theorem dX12_copiesLong_8 : decode cX12_copiesLong 8 = .ok (.aload_n 1, 1) := by decide +kernel
theorem dX12_copiesLong_9 : decode cX12_copiesLong 9 = .ok (.iload_n 2, 1) := by decide +kernel
theorem dX12_copiesLong_10 : decode cX12_copiesLong 10 = .ok (.aload_n 0, 1) := by decide +kernel
theorem dX12_copiesLong_11 : decode cX12_copiesLong 11 = .ok (.iload_n 2, 1) := by decide +kernel
theorem dX12_copiesLong_12 : decode cX12_copiesLong 12 = .ok (.laload, 1) := by decide +kernel
theorem dX12_copiesLong_13 : decode cX12_copiesLong 13 = .ok (.lastore, 1) := by decide +kernel
theorem dX12_copiesLong_14 : decode cX12_copiesLong 14 = .ok (.iinc 2 1, 3) := by decide +kernel
theorem dX12_copiesLong_17 : decode cX12_copiesLong 17 = .ok (.goto (-15), 3) := by decide +kernel
theorem dX12_copiesLong_20 : decode cX12_copiesLong 20 = .ok (.return_, 1) := by decide +kernel
theorem dX12_image_0 : decode cX12_image 0 = .ok (.aload_n 0, 1) := by decide +kernel
theorem dX12_image_1 : decode cX12_image 1 = .ok (.iconst 0, 1) := by decide +kernel
theorem dX12_image_2 : decode cX12_image 2 = .ok (.putfield 127, 3) := by decide +kernel
theorem dX12_image_5 : decode cX12_image 5 = .ok (.aload_n 0, 1) := by decide +kernel
theorem dX12_image_6 : decode cX12_image 6 = .ok (.iconst 1, 1) := by decide +kernel
theorem dX12_image_7 : decode cX12_image 7 = .ok (.putfield 345, 3) := by decide +kernel
theorem dX12_image_10 : decode cX12_image 10 = .ok (.aload_n 0, 1) := by decide +kernel
theorem dX12_image_11 : decode cX12_image 11 = .ok (.aload_n 0, 1) := by decide +kernel
theorem dX12_image_12 : decode cX12_image 12 = .ok (.getfield 352, 3) := by decide +kernel
theorem dX12_image_15 : decode cX12_image 15 = .ok (.putfield 514, 3) := by decide +kernel
theorem dX12_image_18 : decode cX12_image 18 = .ok (.aload_n 0, 1) := by decide +kernel
theorem dX12_image_19 : decode cX12_image 19 = .ok (.aload_n 0, 1) := by decide +kernel
theorem dX12_image_20 : decode cX12_image 20 = .ok (.getfield 355, 3) := by decide +kernel
theorem dX12_image_23 : decode cX12_image 23 = .ok (.putfield 517, 3) := by decide +kernel
theorem dX12_image_26 : decode cX12_image 26 = .ok (.aload_n 0, 1) := by decide +kernel
theorem dX12_image_27 : decode cX12_image 27 = .ok (.aload_n 0, 1) := by decide +kernel
theorem dX12_image_28 : decode cX12_image 28 = .ok (.getfield 368, 3) := by decide +kernel
theorem dX12_image_31 : decode cX12_image 31 = .ok (.putfield 520, 3) := by decide +kernel
theorem dX12_image_34 : decode cX12_image 34 = .ok (.aload_n 0, 1) := by decide +kernel
theorem dX12_image_35 : decode cX12_image 35 = .ok (.aload_n 0, 1) := by decide +kernel
theorem dX12_image_36 : decode cX12_image 36 = .ok (.getfield 358, 3) := by decide +kernel
theorem dX12_image_39 : decode cX12_image 39 = .ok (.putfield 523, 3) := by decide +kernel
theorem dX12_image_42 : decode cX12_image 42 = .ok (.aload_n 0, 1) := by decide +kernel
theorem dX12_image_43 : decode cX12_image 43 = .ok (.getfield 84, 3) := by decide +kernel
theorem dX12_image_46 : decode cX12_image 46 = .ok (.aload_n 0, 1) := by decide +kernel
theorem dX12_image_47 : decode cX12_image 47 = .ok (.getfield 115, 3) := by decide +kernel
theorem dX12_image_50 : decode cX12_image 50 = .ok (.invokestatic 526, 3) := by decide +kernel
theorem dX12_image_53 : decode cX12_image 53 = .ok (.aload_n 0, 1) := by decide +kernel
theorem dX12_image_54 : decode cX12_image 54 = .ok (.getfield 88, 3) := by decide +kernel
theorem dX12_image_57 : decode cX12_image 57 = .ok (.aload_n 0, 1) := by decide +kernel
theorem dX12_image_58 : decode cX12_image 58 = .ok (.getfield 118, 3) := by decide +kernel
theorem dX12_image_61 : decode cX12_image 61 = .ok (.invokestatic 526, 3) := by decide +kernel
theorem dX12_image_64 : decode cX12_image 64 = .ok (.aload_n 0, 1) := by decide +kernel
theorem dX12_image_65 : decode cX12_image 65 = .ok (.aload_n 0, 1) := by decide +kernel
theorem dX12_image_66 : decode cX12_image 66 = .ok (.getfield 91, 3) := by decide +kernel
theorem dX12_image_69 : decode cX12_image 69 = .ok (.aload_n 0, 1) := by decide +kernel
theorem dX12_image_70 : decode cX12_image 70 = .ok (.getfield 121, 3) := by decide +kernel
theorem dX12_image_73 : decode cX12_image 73 = .ok (.invokevirtual 338, 3) := by decide +kernel
theorem dX12_image_76 : decode cX12_image 76 = .ok (.return_, 1) := by decide +kernel
theorem dX12_restore_0 : decode cX12_restore 0 = .ok (.aload_n 0, 1) := by decide +kernel
theorem dX12_restore_1 : decode cX12_restore 1 = .ok (.iconst 0, 1) := by decide +kernel
theorem dX12_restore_2 : decode cX12_restore 2 = .ok (.putfield 127, 3) := by decide +kernel
theorem dX12_restore_5 : decode cX12_restore 5 = .ok (.aload_n 0, 1) := by decide +kernel
theorem dX12_restore_6 : decode cX12_restore 6 = .ok (.getfield 345, 3) := by decide +kernel
theorem dX12_restore_9 : decode cX12_restore 9 = .ok (.ifCond .ne 5, 3) := by decide +kernel
theorem dX12_restore_12 : decode cX12_restore 12 = .ok (.iconst 0, 1) := by decide +kernel
theorem dX12_restore_13 : decode cX12_restore 13 = .ok (.ireturn, 1) := by decide +kernel
theorem dX12_restore_14 : decode cX12_restore 14 = .ok (.aload_n 0, 1) := by decide +kernel
theorem dX12_restore_15 : decode cX12_restore 15 = .ok (.aload_n 0, 1) := by decide +kernel
theorem dX12_restore_16 : decode cX12_restore 16 = .ok (.getfield 514, 3) := by decide +kernel
theorem dX12_restore_19 : decode cX12_restore 19 = .ok (.putfield 352, 3) := by decide +kernel
theorem dX12_restore_22 : decode cX12_restore 22 = .ok (.aload_n 0, 1) := by decide +kernel
theorem dX12_restore_23 : decode cX12_restore 23 = .ok (.aload_n 0, 1) := by decide +kernel
theorem dX12_restore_24 : decode cX12_restore 24 = .ok (.getfield 517, 3) := by decide +kernel
theorem dX12_restore_27 : decode cX12_restore 27 = .ok (.putfield 355, 3) := by decide +kernel
theorem dX12_restore_30 : decode cX12_restore 30 = .ok (.aload_n 0, 1) := by decide +kernel
theorem dX12_restore_31 : decode cX12_restore 31 = .ok (.aload_n 0, 1) := by decide +kernel
theorem dX12_restore_32 : decode cX12_restore 32 = .ok (.getfield 520, 3) := by decide +kernel
theorem dX12_restore_35 : decode cX12_restore 35 = .ok (.putfield 368, 3) := by decide +kernel
theorem dX12_restore_38 : decode cX12_restore 38 = .ok (.aload_n 0, 1) := by decide +kernel
theorem dX12_restore_39 : decode cX12_restore 39 = .ok (.aload_n 0, 1) := by decide +kernel
theorem dX12_restore_40 : decode cX12_restore 40 = .ok (.getfield 523, 3) := by decide +kernel
theorem dX12_restore_43 : decode cX12_restore 43 = .ok (.putfield 358, 3) := by decide +kernel
theorem dX12_restore_46 : decode cX12_restore 46 = .ok (.aload_n 0, 1) := by decide +kernel
theorem dX12_restore_47 : decode cX12_restore 47 = .ok (.getfield 115, 3) := by decide +kernel
theorem dX12_restore_50 : decode cX12_restore 50 = .ok (.aload_n 0, 1) := by decide +kernel
theorem dX12_restore_51 : decode cX12_restore 51 = .ok (.getfield 84, 3) := by decide +kernel
theorem dX12_restore_54 : decode cX12_restore 54 = .ok (.invokestatic 526, 3) := by decide +kernel
theorem dX12_restore_57 : decode cX12_restore 57 = .ok (.aload_n 0, 1) := by decide +kernel
theorem dX12_restore_58 : decode cX12_restore 58 = .ok (.getfield 118, 3) := by decide +kernel
theorem dX12_restore_61 : decode cX12_restore 61 = .ok (.aload_n 0, 1) := by decide +kernel
theorem dX12_restore_62 : decode cX12_restore 62 = .ok (.getfield 88, 3) := by decide +kernel
theorem dX12_restore_65 : decode cX12_restore 65 = .ok (.invokestatic 526, 3) := by decide +kernel
theorem dX12_restore_68 : decode cX12_restore 68 = .ok (.aload_n 0, 1) := by decide +kernel
theorem dX12_restore_69 : decode cX12_restore 69 = .ok (.aload_n 0, 1) := by decide +kernel
theorem dX12_restore_70 : decode cX12_restore 70 = .ok (.getfield 121, 3) := by decide +kernel
theorem dX12_restore_73 : decode cX12_restore 73 = .ok (.aload_n 0, 1) := by decide +kernel
theorem dX12_restore_74 : decode cX12_restore 74 = .ok (.getfield 91, 3) := by decide +kernel
theorem dX12_restore_77 : decode cX12_restore 77 = .ok (.invokevirtual 338, 3) := by decide +kernel
theorem dX12_restore_80 : decode cX12_restore 80 = .ok (.iconst 1, 1) := by decide +kernel
theorem dX12_restore_81 : decode cX12_restore 81 = .ok (.ireturn, 1) := by decide +kernel
theorem dJ9_floorMod_7cf53_0 : decode cJ9_floorMod_7cf53 0 = .ok (.iload_n 0, 1) := by decide +kernel
theorem dJ9_floorMod_7cf53_1 : decode cJ9_floorMod_7cf53 1 = .ok (.iload_n 1, 1) := by decide +kernel
theorem dJ9_floorMod_7cf53_2 : decode cJ9_floorMod_7cf53 2 = .ok (.irem, 1) := by decide +kernel
theorem dJ9_floorMod_7cf53_3 : decode cJ9_floorMod_7cf53 3 = .ok (.istore_n 2, 1) := by decide +kernel
theorem dJ9_floorMod_7cf53_4 : decode cJ9_floorMod_7cf53 4 = .ok (.iload_n 0, 1) := by decide +kernel
theorem dJ9_floorMod_7cf53_5 : decode cJ9_floorMod_7cf53 5 = .ok (.iload_n 1, 1) := by decide +kernel
theorem dJ9_floorMod_7cf53_6 : decode cJ9_floorMod_7cf53 6 = .ok (.ixor, 1) := by decide +kernel
theorem dJ9_floorMod_7cf53_7 : decode cJ9_floorMod_7cf53 7 = .ok (.ifCond .ge 11, 3) := by decide +kernel
theorem dJ9_floorMod_7cf53_10 : decode cJ9_floorMod_7cf53 10 = .ok (.iload_n 2, 1) := by decide +kernel
theorem dJ9_floorMod_7cf53_11 : decode cJ9_floorMod_7cf53 11 = .ok (.ifCond .eq 7, 3) := by decide +kernel
theorem dJ9_floorMod_7cf53_14 : decode cJ9_floorMod_7cf53 14 = .ok (.iload_n 2, 1) := by decide +kernel
theorem dJ9_floorMod_7cf53_15 : decode cJ9_floorMod_7cf53 15 = .ok (.iload_n 1, 1) := by decide +kernel
theorem dJ9_floorMod_7cf53_16 : decode cJ9_floorMod_7cf53 16 = .ok (.iadd, 1) := by decide +kernel
theorem dJ9_floorMod_7cf53_17 : decode cJ9_floorMod_7cf53 17 = .ok (.ireturn, 1) := by decide +kernel
theorem dJ9_floorMod_7cf53_18 : decode cJ9_floorMod_7cf53 18 = .ok (.iload_n 2, 1) := by decide +kernel
theorem dJ9_floorMod_7cf53_19 : decode cJ9_floorMod_7cf53 19 = .ok (.ireturn, 1) := by decide +kernel
theorem dJ9_max_7cf53_0 : decode cJ9_max_7cf53 0 = .ok (.iload_n 0, 1) := by decide +kernel
theorem dJ9_max_7cf53_1 : decode cJ9_max_7cf53 1 = .ok (.iload_n 1, 1) := by decide +kernel
theorem dJ9_max_7cf53_2 : decode cJ9_max_7cf53 2 = .ok (.if_icmp .lt 7, 3) := by decide +kernel
theorem dJ9_max_7cf53_5 : decode cJ9_max_7cf53 5 = .ok (.iload_n 0, 1) := by decide +kernel
theorem dJ9_max_7cf53_6 : decode cJ9_max_7cf53 6 = .ok (.goto 4, 3) := by decide +kernel
theorem dJ9_max_7cf53_9 : decode cJ9_max_7cf53 9 = .ok (.iload_n 1, 1) := by decide +kernel
theorem dJ9_max_7cf53_10 : decode cJ9_max_7cf53 10 = .ok (.ireturn, 1) := by decide +kernel
theorem dJ9_min_7cf53_0 : decode cJ9_min_7cf53 0 = .ok (.iload_n 0, 1) := by decide +kernel
theorem dJ9_min_7cf53_1 : decode cJ9_min_7cf53 1 = .ok (.iload_n 1, 1) := by decide +kernel
theorem dJ9_min_7cf53_2 : decode cJ9_min_7cf53 2 = .ok (.if_icmp .gt 7, 3) := by decide +kernel
theorem dJ9_min_7cf53_5 : decode cJ9_min_7cf53 5 = .ok (.iload_n 0, 1) := by decide +kernel
theorem dJ9_min_7cf53_6 : decode cJ9_min_7cf53 6 = .ok (.goto 4, 3) := by decide +kernel
theorem dJ9_min_7cf53_9 : decode cJ9_min_7cf53 9 = .ok (.iload_n 1, 1) := by decide +kernel
theorem dJ9_min_7cf53_10 : decode cJ9_min_7cf53 10 = .ok (.ireturn, 1) := by decide +kernel
theorem dJ9_min_f86c9_0 : decode cJ9_min_f86c9 0 = .ok (.lload_n 0, 1) := by decide +kernel
theorem dJ9_min_f86c9_1 : decode cJ9_min_f86c9 1 = .ok (.lload_n 2, 1) := by decide +kernel
theorem dJ9_min_f86c9_2 : decode cJ9_min_f86c9 2 = .ok (.lcmp, 1) := by decide +kernel
theorem dJ9_min_f86c9_3 : decode cJ9_min_f86c9 3 = .ok (.ifCond .gt 7, 3) := by decide +kernel
theorem dJ9_min_f86c9_6 : decode cJ9_min_f86c9 6 = .ok (.lload_n 0, 1) := by decide +kernel
theorem dJ9_min_f86c9_7 : decode cJ9_min_f86c9 7 = .ok (.goto 4, 3) := by decide +kernel
theorem dJ9_min_f86c9_10 : decode cJ9_min_f86c9 10 = .ok (.lload_n 2, 1) := by decide +kernel
theorem dJ9_min_f86c9_11 : decode cJ9_min_f86c9 11 = .ok (.lreturn, 1) := by decide +kernel
theorem dJ0_length_8abf5_0 : decode cJ0_length_8abf5 0 = .ok (.aload_n 0, 1) := by decide +kernel
theorem dJ0_length_8abf5_1 : decode cJ0_length_8abf5 1 = .ok (.getfield 9, 3) := by decide +kernel
theorem dJ0_length_8abf5_4 : decode cJ0_length_8abf5 4 = .ok (.arraylength, 1) := by decide +kernel
theorem dJ0_length_8abf5_5 : decode cJ0_length_8abf5 5 = .ok (.aload_n 0, 1) := by decide +kernel
theorem dJ0_length_8abf5_6 : decode cJ0_length_8abf5 6 = .ok (.invokevirtual 335, 3) := by decide +kernel
theorem dJ0_length_8abf5_9 : decode cJ0_length_8abf5 9 = .ok (.ishr, 1) := by decide +kernel
theorem dJ0_length_8abf5_10 : decode cJ0_length_8abf5 10 = .ok (.ireturn, 1) := by decide +kernel
theorem dJ0_charAt_5068e_0 : decode cJ0_charAt_5068e 0 = .ok (.aload_n 0, 1) := by decide +kernel
theorem dJ0_charAt_5068e_1 : decode cJ0_charAt_5068e 1 = .ok (.invokevirtual 492, 3) := by decide +kernel
theorem dJ0_charAt_5068e_4 : decode cJ0_charAt_5068e 4 = .ok (.ifCond .eq 12, 3) := by decide +kernel
theorem dJ0_charAt_5068e_7 : decode cJ0_charAt_5068e 7 = .ok (.aload_n 0, 1) := by decide +kernel
theorem dJ0_charAt_5068e_8 : decode cJ0_charAt_5068e 8 = .ok (.getfield 9, 3) := by decide +kernel
theorem dJ0_charAt_5068e_11 : decode cJ0_charAt_5068e 11 = .ok (.iload_n 1, 1) := by decide +kernel
theorem dJ0_charAt_5068e_12 : decode cJ0_charAt_5068e 12 = .ok (.invokestatic 495, 3) := by decide +kernel
theorem dJ0_charAt_5068e_15 : decode cJ0_charAt_5068e 15 = .ok (.ireturn, 1) := by decide +kernel
theorem dJ0_charAt_5068e_16 : decode cJ0_charAt_5068e 16 = .ok (.aload_n 0, 1) := by decide +kernel
theorem dJ0_charAt_5068e_17 : decode cJ0_charAt_5068e 17 = .ok (.getfield 9, 3) := by decide +kernel
theorem dJ0_charAt_5068e_20 : decode cJ0_charAt_5068e 20 = .ok (.iload_n 1, 1) := by decide +kernel
theorem dJ0_charAt_5068e_21 : decode cJ0_charAt_5068e 21 = .ok (.invokestatic 498, 3) := by decide +kernel
theorem dJ0_charAt_5068e_24 : decode cJ0_charAt_5068e 24 = .ok (.ireturn, 1) := by decide +kernel
theorem dJ0_coder_7d493_0 : decode cJ0_coder_7d493 0 = .ok (.getstatic 38, 3) := by decide +kernel
theorem dJ0_coder_7d493_3 : decode cJ0_coder_7d493 3 = .ok (.ifCond .eq 10, 3) := by decide +kernel
theorem dJ0_coder_7d493_6 : decode cJ0_coder_7d493 6 = .ok (.aload_n 0, 1) := by decide +kernel
theorem dJ0_coder_7d493_7 : decode cJ0_coder_7d493 7 = .ok (.getfield 15, 3) := by decide +kernel
theorem dJ0_coder_7d493_10 : decode cJ0_coder_7d493 10 = .ok (.goto 4, 3) := by decide +kernel
theorem dJ0_coder_7d493_13 : decode cJ0_coder_7d493 13 = .ok (.iconst 1, 1) := by decide +kernel
theorem dJ0_coder_7d493_14 : decode cJ0_coder_7d493 14 = .ok (.ireturn, 1) := by decide +kernel
theorem dJ0_isLatin1_aae02_0 : decode cJ0_isLatin1_aae02 0 = .ok (.getstatic 38, 3) := by decide +kernel
theorem dJ0_isLatin1_aae02_3 : decode cJ0_isLatin1_aae02 3 = .ok (.ifCond .eq 14, 3) := by decide +kernel
theorem dJ0_isLatin1_aae02_6 : decode cJ0_isLatin1_aae02 6 = .ok (.aload_n 0, 1) := by decide +kernel
theorem dJ0_isLatin1_aae02_7 : decode cJ0_isLatin1_aae02 7 = .ok (.getfield 15, 3) := by decide +kernel
theorem dJ0_isLatin1_aae02_10 : decode cJ0_isLatin1_aae02 10 = .ok (.ifCond .ne 7, 3) := by decide +kernel
theorem dJ0_isLatin1_aae02_13 : decode cJ0_isLatin1_aae02 13 = .ok (.iconst 1, 1) := by decide +kernel
theorem dJ0_isLatin1_aae02_14 : decode cJ0_isLatin1_aae02 14 = .ok (.goto 4, 3) := by decide +kernel
theorem dJ0_isLatin1_aae02_17 : decode cJ0_isLatin1_aae02 17 = .ok (.iconst 0, 1) := by decide +kernel
theorem dJ0_isLatin1_aae02_18 : decode cJ0_isLatin1_aae02 18 = .ok (.ireturn, 1) := by decide +kernel
theorem dJ0_checkIndex_df160_0 : decode cJ0_checkIndex_df160 0 = .ok (.iload_n 0, 1) := by decide +kernel
theorem dJ0_checkIndex_df160_1 : decode cJ0_checkIndex_df160 1 = .ok (.iload_n 1, 1) := by decide +kernel
theorem dJ0_checkIndex_df160_2 : decode cJ0_checkIndex_df160 2 = .ok (.getstatic 1053, 3) := by decide +kernel
theorem dJ0_checkIndex_df160_5 : decode cJ0_checkIndex_df160 5 = .ok (.invokestatic 1059, 3) := by decide +kernel
theorem dJ0_checkIndex_df160_8 : decode cJ0_checkIndex_df160 8 = .ok (.pop, 1) := by decide +kernel
theorem dJ0_checkIndex_df160_9 : decode cJ0_checkIndex_df160 9 = .ok (.return_, 1) := by decide +kernel
theorem dJ1_charAt_3b067_0 : decode cJ1_charAt_3b067 0 = .ok (.iload_n 1, 1) := by decide +kernel
theorem dJ1_charAt_3b067_1 : decode cJ1_charAt_3b067 1 = .ok (.aload_n 0, 1) := by decide +kernel
theorem dJ1_charAt_3b067_2 : decode cJ1_charAt_3b067 2 = .ok (.arraylength, 1) := by decide +kernel
theorem dJ1_charAt_3b067_3 : decode cJ1_charAt_3b067 3 = .ok (.invokestatic 9, 3) := by decide +kernel
theorem dJ1_charAt_3b067_6 : decode cJ1_charAt_3b067 6 = .ok (.aload_n 0, 1) := by decide +kernel
theorem dJ1_charAt_3b067_7 : decode cJ1_charAt_3b067 7 = .ok (.iload_n 1, 1) := by decide +kernel
theorem dJ1_charAt_3b067_8 : decode cJ1_charAt_3b067 8 = .ok (.baload, 1) := by decide +kernel
theorem dJ1_charAt_3b067_9 : decode cJ1_charAt_3b067 9 = .ok (.sipush 255, 3) := by decide +kernel
theorem dJ1_charAt_3b067_12 : decode cJ1_charAt_3b067 12 = .ok (.iand, 1) := by decide +kernel
theorem dJ1_charAt_3b067_13 : decode cJ1_charAt_3b067 13 = .ok (.i2c, 1) := by decide +kernel
theorem dJ1_charAt_3b067_14 : decode cJ1_charAt_3b067 14 = .ok (.ireturn, 1) := by decide +kernel
theorem dJ2_getChar_3b067_0 : decode cJ2_getChar_3b067 0 = .ok (.getstatic 44, 3) := by decide +kernel
theorem dJ2_getChar_3b067_3 : decode cJ2_getChar_3b067 3 = .ok (.ifCond .ne 25, 3) := by decide +kernel
theorem dJ2_getChar_3b067_6 : decode cJ2_getChar_3b067 6 = .ok (.iload_n 1, 1) := by decide +kernel
theorem dJ2_getChar_3b067_7 : decode cJ2_getChar_3b067 7 = .ok (.ifCond .lt 11, 3) := by decide +kernel
theorem dJ2_getChar_3b067_10 : decode cJ2_getChar_3b067 10 = .ok (.iload_n 1, 1) := by decide +kernel
theorem dJ2_getChar_3b067_11 : decode cJ2_getChar_3b067 11 = .ok (.aload_n 0, 1) := by decide +kernel
theorem dJ2_getChar_3b067_12 : decode cJ2_getChar_3b067 12 = .ok (.invokestatic 48, 3) := by decide +kernel
theorem dJ2_getChar_3b067_15 : decode cJ2_getChar_3b067 15 = .ok (.if_icmp .lt 13, 3) := by decide +kernel
theorem dJ2_getChar_3b067_18 : decode cJ2_getChar_3b067 18 = .ok (.new 52, 3) := by decide +kernel
theorem dJ2_getChar_3b067_21 : decode cJ2_getChar_3b067 21 = .ok (.dup, 1) := by decide +kernel
theorem dJ2_getChar_3b067_22 : decode cJ2_getChar_3b067 22 = .ok (.ldc 54, 2) := by decide +kernel
theorem dJ2_getChar_3b067_24 : decode cJ2_getChar_3b067 24 = .ok (.invokespecial 56, 3) := by decide +kernel
theorem dJ2_getChar_3b067_27 : decode cJ2_getChar_3b067 27 = .ok (.athrow, 1) := by decide +kernel
theorem dJ2_getChar_3b067_28 : decode cJ2_getChar_3b067 28 = .ok (.iload_n 1, 1) := by decide +kernel
theorem dJ2_getChar_3b067_29 : decode cJ2_getChar_3b067 29 = .ok (.iconst 1, 1) := by decide +kernel
theorem dJ2_getChar_3b067_30 : decode cJ2_getChar_3b067 30 = .ok (.ishl, 1) := by decide +kernel
theorem dJ2_getChar_3b067_31 : decode cJ2_getChar_3b067 31 = .ok (.istore_n 1, 1) := by decide +kernel
theorem dJ2_getChar_3b067_32 : decode cJ2_getChar_3b067 32 = .ok (.aload_n 0, 1) := by decide +kernel
theorem dJ2_getChar_3b067_33 : decode cJ2_getChar_3b067 33 = .ok (.iload_n 1, 1) := by decide +kernel
theorem dJ2_getChar_3b067_34 : decode cJ2_getChar_3b067 34 = .ok (.iinc 1 1, 3) := by decide +kernel
theorem dJ2_getChar_3b067_37 : decode cJ2_getChar_3b067 37 = .ok (.baload, 1) := by decide +kernel
theorem dJ2_getChar_3b067_38 : decode cJ2_getChar_3b067 38 = .ok (.sipush 255, 3) := by decide +kernel
theorem dJ2_getChar_3b067_41 : decode cJ2_getChar_3b067 41 = .ok (.iand, 1) := by decide +kernel
theorem dJ2_getChar_3b067_42 : decode cJ2_getChar_3b067 42 = .ok (.getstatic 59, 3) := by decide +kernel
theorem dJ2_getChar_3b067_45 : decode cJ2_getChar_3b067 45 = .ok (.ishl, 1) := by decide +kernel
theorem dJ2_getChar_3b067_46 : decode cJ2_getChar_3b067 46 = .ok (.aload_n 0, 1) := by decide +kernel
theorem dJ2_getChar_3b067_47 : decode cJ2_getChar_3b067 47 = .ok (.iload_n 1, 1) := by decide +kernel
theorem dJ2_getChar_3b067_48 : decode cJ2_getChar_3b067 48 = .ok (.baload, 1) := by decide +kernel
theorem dJ2_getChar_3b067_49 : decode cJ2_getChar_3b067 49 = .ok (.sipush 255, 3) := by decide +kernel
theorem dJ2_getChar_3b067_52 : decode cJ2_getChar_3b067 52 = .ok (.iand, 1) := by decide +kernel
theorem dJ2_getChar_3b067_53 : decode cJ2_getChar_3b067 53 = .ok (.getstatic 63, 3) := by decide +kernel
theorem dJ2_getChar_3b067_56 : decode cJ2_getChar_3b067 56 = .ok (.ishl, 1) := by decide +kernel
theorem dJ2_getChar_3b067_57 : decode cJ2_getChar_3b067 57 = .ok (.ior, 1) := by decide +kernel
theorem dJ2_getChar_3b067_58 : decode cJ2_getChar_3b067 58 = .ok (.i2c, 1) := by decide +kernel
theorem dJ2_getChar_3b067_59 : decode cJ2_getChar_3b067 59 = .ok (.ireturn, 1) := by decide +kernel
theorem dJ2_length_9d52b_0 : decode cJ2_length_9d52b 0 = .ok (.aload_n 0, 1) := by decide +kernel
theorem dJ2_length_9d52b_1 : decode cJ2_length_9d52b 1 = .ok (.arraylength, 1) := by decide +kernel
theorem dJ2_length_9d52b_2 : decode cJ2_length_9d52b 2 = .ok (.iconst 1, 1) := by decide +kernel
theorem dJ2_length_9d52b_3 : decode cJ2_length_9d52b 3 = .ok (.ishr, 1) := by decide +kernel
theorem dJ2_length_9d52b_4 : decode cJ2_length_9d52b 4 = .ok (.ireturn, 1) := by decide +kernel
theorem dJ2_charAt_3b067_0 : decode cJ2_charAt_3b067 0 = .ok (.iload_n 1, 1) := by decide +kernel
theorem dJ2_charAt_3b067_1 : decode cJ2_charAt_3b067 1 = .ok (.aload_n 0, 1) := by decide +kernel
theorem dJ2_charAt_3b067_2 : decode cJ2_charAt_3b067 2 = .ok (.invokestatic 67, 3) := by decide +kernel
theorem dJ2_charAt_3b067_5 : decode cJ2_charAt_3b067 5 = .ok (.aload_n 0, 1) := by decide +kernel
theorem dJ2_charAt_3b067_6 : decode cJ2_charAt_3b067 6 = .ok (.iload_n 1, 1) := by decide +kernel
theorem dJ2_charAt_3b067_7 : decode cJ2_charAt_3b067 7 = .ok (.invokestatic 71, 3) := by decide +kernel
theorem dJ2_charAt_3b067_10 : decode cJ2_charAt_3b067 10 = .ok (.ireturn, 1) := by decide +kernel
theorem dJ2_checkIndex_2214a_0 : decode cJ2_checkIndex_2214a 0 = .ok (.iload_n 0, 1) := by decide +kernel
theorem dJ2_checkIndex_2214a_1 : decode cJ2_checkIndex_2214a 1 = .ok (.aload_n 1, 1) := by decide +kernel
theorem dJ2_checkIndex_2214a_2 : decode cJ2_checkIndex_2214a 2 = .ok (.invokestatic 48, 3) := by decide +kernel
theorem dJ2_checkIndex_2214a_5 : decode cJ2_checkIndex_2214a 5 = .ok (.invokestatic 414, 3) := by decide +kernel
theorem dJ2_checkIndex_2214a_8 : decode cJ2_checkIndex_2214a 8 = .ok (.return_, 1) := by decide +kernel
theorem dJ7_fill_53178_0 : decode cJ7_fill_53178 0 = .ok (.iconst 0, 1) := by decide +kernel
theorem dJ7_fill_53178_1 : decode cJ7_fill_53178 1 = .ok (.istore_n 2, 1) := by decide +kernel
theorem dJ7_fill_53178_2 : decode cJ7_fill_53178 2 = .ok (.aload_n 0, 1) := by decide +kernel
theorem dJ7_fill_53178_3 : decode cJ7_fill_53178 3 = .ok (.arraylength, 1) := by decide +kernel
theorem dJ7_fill_53178_4 : decode cJ7_fill_53178 4 = .ok (.istore_n 3, 1) := by decide +kernel
theorem dJ7_fill_53178_5 : decode cJ7_fill_53178 5 = .ok (.iload_n 2, 1) := by decide +kernel
theorem dJ7_fill_53178_6 : decode cJ7_fill_53178 6 = .ok (.iload_n 3, 1) := by decide +kernel
theorem dJ7_fill_53178_7 : decode cJ7_fill_53178 7 = .ok (.if_icmp .ge 13, 3) := by decide +kernel
theorem dJ7_fill_53178_10 : decode cJ7_fill_53178 10 = .ok (.aload_n 0, 1) := by decide +kernel
theorem dJ7_fill_53178_11 : decode cJ7_fill_53178 11 = .ok (.iload_n 2, 1) := by decide +kernel
theorem dJ7_fill_53178_12 : decode cJ7_fill_53178 12 = .ok (.iload_n 1, 1) := by decide +kernel
theorem dJ7_fill_53178_13 : decode cJ7_fill_53178 13 = .ok (.iastore, 1) := by decide +kernel
theorem dJ7_fill_53178_14 : decode cJ7_fill_53178 14 = .ok (.iinc 2 1, 3) := by decide +kernel
theorem dJ7_fill_53178_17 : decode cJ7_fill_53178 17 = .ok (.goto (-12), 3) := by decide +kernel
theorem dJ7_fill_53178_20 : decode cJ7_fill_53178 20 = .ok (.return_, 1) := by decide +kernel
theorem dJ3_checkIndex_8e157_0 : decode cJ3_checkIndex_8e157 0 = .ok (.iload_n 0, 1) := by decide +kernel
theorem dJ3_checkIndex_8e157_1 : decode cJ3_checkIndex_8e157 1 = .ok (.ifCond .lt 8, 3) := by decide +kernel
theorem dJ3_checkIndex_8e157_4 : decode cJ3_checkIndex_8e157 4 = .ok (.iload_n 0, 1) := by decide +kernel
theorem dJ3_checkIndex_8e157_5 : decode cJ3_checkIndex_8e157 5 = .ok (.iload_n 1, 1) := by decide +kernel
theorem dJ3_checkIndex_8e157_6 : decode cJ3_checkIndex_8e157 6 = .ok (.if_icmp .lt 10, 3) := by decide +kernel
theorem dJ3_checkIndex_8e157_9 : decode cJ3_checkIndex_8e157 9 = .ok (.aload_n 2, 1) := by decide +kernel
theorem dJ3_checkIndex_8e157_10 : decode cJ3_checkIndex_8e157 10 = .ok (.iload_n 0, 1) := by decide +kernel
theorem dJ3_checkIndex_8e157_11 : decode cJ3_checkIndex_8e157 11 = .ok (.iload_n 1, 1) := by decide +kernel
theorem dJ3_checkIndex_8e157_12 : decode cJ3_checkIndex_8e157 12 = .ok (.invokestatic 95, 3) := by decide +kernel
theorem dJ3_checkIndex_8e157_15 : decode cJ3_checkIndex_8e157 15 = .ok (.athrow, 1) := by decide +kernel
theorem dJ3_checkIndex_8e157_16 : decode cJ3_checkIndex_8e157 16 = .ok (.iload_n 0, 1) := by decide +kernel
theorem dJ3_checkIndex_8e157_17 : decode cJ3_checkIndex_8e157 17 = .ok (.ireturn, 1) := by decide +kernel
theorem dL_shed_0 : decode cL_shed 0 = .ok (.aload_n 2, 1) := by decide +kernel
theorem dL_shed_1 : decode cL_shed 1 = .ok (.iconst 0, 1) := by decide +kernel
theorem dL_shed_2 : decode cL_shed 2 = .ok (.aload_n 0, 1) := by decide +kernel
theorem dL_shed_3 : decode cL_shed 3 = .ok (.iload_n 1, 1) := by decide +kernel
theorem dL_shed_4 : decode cL_shed 4 = .ok (.invokevirtual 7, 3) := by decide +kernel
theorem dL_shed_7 : decode cL_shed 7 = .ok (.i2l, 1) := by decide +kernel
theorem dL_shed_8 : decode cL_shed 8 = .ok (.lastore, 1) := by decide +kernel
theorem dL_shed_9 : decode cL_shed 9 = .ok (.goto 6, 3) := by decide +kernel
theorem dL_shed_12 : decode cL_shed 12 = .ok (.astore_n 3, 1) := by decide +kernel
theorem dL_shed_13 : decode cL_shed 13 = .ok (.iconst 1, 1) := by decide +kernel
theorem dL_shed_14 : decode cL_shed 14 = .ok (.ireturn, 1) := by decide +kernel
theorem dL_shed_15 : decode cL_shed 15 = .ok (.iconst 0, 1) := by decide +kernel
theorem dL_shed_16 : decode cL_shed 16 = .ok (.ireturn, 1) := by decide +kernel
theorem dL_count_0 : decode cL_count 0 = .ok (.aload_n 2, 1) := by decide +kernel
theorem dL_count_1 : decode cL_count 1 = .ok (.iconst 0, 1) := by decide +kernel
theorem dL_count_2 : decode cL_count 2 = .ok (.aload_n 0, 1) := by decide +kernel
theorem dL_count_3 : decode cL_count 3 = .ok (.iload_n 1, 1) := by decide +kernel
theorem dL_count_4 : decode cL_count 4 = .ok (.invokevirtual 15, 3) := by decide +kernel
theorem dL_count_7 : decode cL_count 7 = .ok (.i2l, 1) := by decide +kernel
theorem dL_count_8 : decode cL_count 8 = .ok (.lastore, 1) := by decide +kernel
theorem dL_count_9 : decode cL_count 9 = .ok (.goto 6, 3) := by decide +kernel
theorem dL_count_12 : decode cL_count 12 = .ok (.astore_n 3, 1) := by decide +kernel
theorem dL_count_13 : decode cL_count 13 = .ok (.iconst 1, 1) := by decide +kernel
theorem dL_count_14 : decode cL_count 14 = .ok (.ireturn, 1) := by decide +kernel
theorem dL_count_15 : decode cL_count 15 = .ok (.iconst 0, 1) := by decide +kernel
theorem dL_count_16 : decode cL_count 16 = .ok (.ireturn, 1) := by decide +kernel
theorem dL_hole_0 : decode cL_hole 0 = .ok (.aload_n 3, 1) := by decide +kernel
theorem dL_hole_1 : decode cL_hole 1 = .ok (.iconst 0, 1) := by decide +kernel
theorem dL_hole_2 : decode cL_hole 2 = .ok (.aload_n 0, 1) := by decide +kernel
theorem dL_hole_3 : decode cL_hole 3 = .ok (.iload_n 1, 1) := by decide +kernel
theorem dL_hole_4 : decode cL_hole 4 = .ok (.iload_n 2, 1) := by decide +kernel
theorem dL_hole_5 : decode cL_hole 5 = .ok (.invokevirtual 20, 3) := by decide +kernel
theorem dL_hole_8 : decode cL_hole 8 = .ok (.i2l, 1) := by decide +kernel
theorem dL_hole_9 : decode cL_hole 9 = .ok (.lastore, 1) := by decide +kernel
theorem dL_hole_10 : decode cL_hole 10 = .ok (.goto 7, 3) := by decide +kernel
theorem dL_hole_13 : decode cL_hole 13 = .ok (.astore 4, 2) := by decide +kernel
theorem dL_hole_15 : decode cL_hole 15 = .ok (.iconst 1, 1) := by decide +kernel
theorem dL_hole_16 : decode cL_hole 16 = .ok (.ireturn, 1) := by decide +kernel
theorem dL_hole_17 : decode cL_hole 17 = .ok (.iconst 0, 1) := by decide +kernel
theorem dL_hole_18 : decode cL_hole 18 = .ok (.ireturn, 1) := by decide +kernel
theorem dL_weight_0 : decode cL_weight 0 = .ok (.aload_n 2, 1) := by decide +kernel
theorem dL_weight_1 : decode cL_weight 1 = .ok (.iconst 0, 1) := by decide +kernel
theorem dL_weight_2 : decode cL_weight 2 = .ok (.aload_n 0, 1) := by decide +kernel
theorem dL_weight_3 : decode cL_weight 3 = .ok (.iload_n 1, 1) := by decide +kernel
theorem dL_weight_4 : decode cL_weight 4 = .ok (.invokevirtual 24, 3) := by decide +kernel
theorem dL_weight_7 : decode cL_weight 7 = .ok (.lastore, 1) := by decide +kernel
theorem dL_weight_8 : decode cL_weight 8 = .ok (.goto 6, 3) := by decide +kernel
theorem dL_weight_11 : decode cL_weight 11 = .ok (.astore_n 3, 1) := by decide +kernel
theorem dL_weight_12 : decode cL_weight 12 = .ok (.iconst 1, 1) := by decide +kernel
theorem dL_weight_13 : decode cL_weight 13 = .ok (.ireturn, 1) := by decide +kernel
theorem dL_weight_14 : decode cL_weight 14 = .ok (.iconst 0, 1) := by decide +kernel
theorem dL_weight_15 : decode cL_weight 15 = .ok (.ireturn, 1) := by decide +kernel
theorem dL_odds_0 : decode cL_odds 0 = .ok (.aload_n 2, 1) := by decide +kernel
theorem dL_odds_1 : decode cL_odds 1 = .ok (.iconst 0, 1) := by decide +kernel
theorem dL_odds_2 : decode cL_odds 2 = .ok (.aload_n 0, 1) := by decide +kernel
theorem dL_odds_3 : decode cL_odds 3 = .ok (.iload_n 1, 1) := by decide +kernel
theorem dL_odds_4 : decode cL_odds 4 = .ok (.invokevirtual 28, 3) := by decide +kernel
theorem dL_odds_7 : decode cL_odds 7 = .ok (.i2l, 1) := by decide +kernel
theorem dL_odds_8 : decode cL_odds 8 = .ok (.lastore, 1) := by decide +kernel
theorem dL_odds_9 : decode cL_odds 9 = .ok (.goto 6, 3) := by decide +kernel
theorem dL_odds_12 : decode cL_odds 12 = .ok (.astore_n 3, 1) := by decide +kernel
theorem dL_odds_13 : decode cL_odds 13 = .ok (.iconst 1, 1) := by decide +kernel
theorem dL_odds_14 : decode cL_odds 14 = .ok (.ireturn, 1) := by decide +kernel
theorem dL_odds_15 : decode cL_odds 15 = .ok (.iconst 0, 1) := by decide +kernel
theorem dL_odds_16 : decode cL_odds 16 = .ok (.ireturn, 1) := by decide +kernel
theorem dL_next_0 : decode cL_next 0 = .ok (.aload_n 2, 1) := by decide +kernel
theorem dL_next_1 : decode cL_next 1 = .ok (.iconst 0, 1) := by decide +kernel
theorem dL_next_2 : decode cL_next 2 = .ok (.aload_n 0, 1) := by decide +kernel
theorem dL_next_3 : decode cL_next 3 = .ok (.iload_n 1, 1) := by decide +kernel
theorem dL_next_4 : decode cL_next 4 = .ok (.invokevirtual 31, 3) := by decide +kernel
theorem dL_next_7 : decode cL_next 7 = .ok (.i2l, 1) := by decide +kernel
theorem dL_next_8 : decode cL_next 8 = .ok (.lastore, 1) := by decide +kernel
theorem dL_next_9 : decode cL_next 9 = .ok (.goto 6, 3) := by decide +kernel
theorem dL_next_12 : decode cL_next 12 = .ok (.astore_n 3, 1) := by decide +kernel
theorem dL_next_13 : decode cL_next 13 = .ok (.iconst 1, 1) := by decide +kernel
theorem dL_next_14 : decode cL_next 14 = .ok (.ireturn, 1) := by decide +kernel
theorem dL_next_15 : decode cL_next 15 = .ok (.iconst 0, 1) := by decide +kernel
theorem dL_next_16 : decode cL_next 16 = .ok (.ireturn, 1) := by decide +kernel
theorem dL_plan_0 : decode cL_plan 0 = .ok (.aload_n 2, 1) := by decide +kernel
theorem dL_plan_1 : decode cL_plan 1 = .ok (.iconst 0, 1) := by decide +kernel
theorem dL_plan_2 : decode cL_plan 2 = .ok (.aload_n 0, 1) := by decide +kernel
theorem dL_plan_3 : decode cL_plan 3 = .ok (.iload_n 1, 1) := by decide +kernel
theorem dL_plan_4 : decode cL_plan 4 = .ok (.invokevirtual 34, 3) := by decide +kernel
theorem dL_plan_7 : decode cL_plan 7 = .ok (.i2l, 1) := by decide +kernel
theorem dL_plan_8 : decode cL_plan 8 = .ok (.lastore, 1) := by decide +kernel
theorem dL_plan_9 : decode cL_plan 9 = .ok (.goto 6, 3) := by decide +kernel
theorem dL_plan_12 : decode cL_plan 12 = .ok (.astore_n 3, 1) := by decide +kernel
theorem dL_plan_13 : decode cL_plan 13 = .ok (.iconst 1, 1) := by decide +kernel
theorem dL_plan_14 : decode cL_plan 14 = .ok (.ireturn, 1) := by decide +kernel
theorem dL_plan_15 : decode cL_plan 15 = .ok (.iconst 0, 1) := by decide +kernel
theorem dL_plan_16 : decode cL_plan 16 = .ok (.ireturn, 1) := by decide +kernel
theorem dL_planned_0 : decode cL_planned 0 = .ok (.aload_n 2, 1) := by decide +kernel
theorem dL_planned_1 : decode cL_planned 1 = .ok (.iconst 0, 1) := by decide +kernel
theorem dL_planned_2 : decode cL_planned 2 = .ok (.aload_n 0, 1) := by decide +kernel
theorem dL_planned_3 : decode cL_planned 3 = .ok (.iload_n 1, 1) := by decide +kernel
theorem dL_planned_4 : decode cL_planned 4 = .ok (.invokevirtual 37, 3) := by decide +kernel
theorem dL_planned_7 : decode cL_planned 7 = .ok (.i2l, 1) := by decide +kernel
theorem dL_planned_8 : decode cL_planned 8 = .ok (.lastore, 1) := by decide +kernel
theorem dL_planned_9 : decode cL_planned 9 = .ok (.goto 6, 3) := by decide +kernel
theorem dL_planned_12 : decode cL_planned 12 = .ok (.astore_n 3, 1) := by decide +kernel
theorem dL_planned_13 : decode cL_planned 13 = .ok (.iconst 1, 1) := by decide +kernel
theorem dL_planned_14 : decode cL_planned 14 = .ok (.ireturn, 1) := by decide +kernel
theorem dL_planned_15 : decode cL_planned 15 = .ok (.iconst 0, 1) := by decide +kernel
theorem dL_planned_16 : decode cL_planned 16 = .ok (.ireturn, 1) := by decide +kernel
theorem dL_seek_0 : decode cL_seek 0 = .ok (.aload 4, 2) := by decide +kernel
theorem dL_seek_2 : decode cL_seek 2 = .ok (.iconst 0, 1) := by decide +kernel
theorem dL_seek_3 : decode cL_seek 3 = .ok (.aload_n 0, 1) := by decide +kernel
theorem dL_seek_4 : decode cL_seek 4 = .ok (.iload_n 1, 1) := by decide +kernel
theorem dL_seek_5 : decode cL_seek 5 = .ok (.iload_n 2, 1) := by decide +kernel
theorem dL_seek_6 : decode cL_seek 6 = .ok (.iload_n 3, 1) := by decide +kernel
theorem dL_seek_7 : decode cL_seek 7 = .ok (.invokevirtual 40, 3) := by decide +kernel
theorem dL_seek_10 : decode cL_seek 10 = .ok (.i2l, 1) := by decide +kernel
theorem dL_seek_11 : decode cL_seek 11 = .ok (.lastore, 1) := by decide +kernel
theorem dL_seek_12 : decode cL_seek 12 = .ok (.goto 7, 3) := by decide +kernel
theorem dL_seek_15 : decode cL_seek 15 = .ok (.astore 5, 2) := by decide +kernel
theorem dL_seek_17 : decode cL_seek 17 = .ok (.iconst 1, 1) := by decide +kernel
theorem dL_seek_18 : decode cL_seek 18 = .ok (.ireturn, 1) := by decide +kernel
theorem dL_seek_19 : decode cL_seek 19 = .ok (.iconst 0, 1) := by decide +kernel
theorem dL_seek_20 : decode cL_seek 20 = .ok (.ireturn, 1) := by decide +kernel
theorem dL_air_0 : decode cL_air 0 = .ok (.aload_n 2, 1) := by decide +kernel
theorem dL_air_1 : decode cL_air 1 = .ok (.iconst 0, 1) := by decide +kernel
theorem dL_air_2 : decode cL_air 2 = .ok (.aload_n 0, 1) := by decide +kernel
theorem dL_air_3 : decode cL_air 3 = .ok (.iload_n 1, 1) := by decide +kernel
theorem dL_air_4 : decode cL_air 4 = .ok (.invokevirtual 44, 3) := by decide +kernel
theorem dL_air_7 : decode cL_air 7 = .ok (.i2l, 1) := by decide +kernel
theorem dL_air_8 : decode cL_air 8 = .ok (.lastore, 1) := by decide +kernel
theorem dL_air_9 : decode cL_air 9 = .ok (.goto 6, 3) := by decide +kernel
theorem dL_air_12 : decode cL_air 12 = .ok (.astore_n 3, 1) := by decide +kernel
theorem dL_air_13 : decode cL_air 13 = .ok (.iconst 1, 1) := by decide +kernel
theorem dL_air_14 : decode cL_air 14 = .ok (.ireturn, 1) := by decide +kernel
theorem dL_air_15 : decode cL_air 15 = .ok (.iconst 0, 1) := by decide +kernel
theorem dL_air_16 : decode cL_air 16 = .ok (.ireturn, 1) := by decide +kernel
theorem dL_line_0 : decode cL_line 0 = .ok (.aload_n 2, 1) := by decide +kernel
theorem dL_line_1 : decode cL_line 1 = .ok (.iconst 0, 1) := by decide +kernel
theorem dL_line_2 : decode cL_line 2 = .ok (.aload_n 0, 1) := by decide +kernel
theorem dL_line_3 : decode cL_line 3 = .ok (.iload_n 1, 1) := by decide +kernel
theorem dL_line_4 : decode cL_line 4 = .ok (.invokevirtual 47, 3) := by decide +kernel
theorem dL_line_7 : decode cL_line 7 = .ok (.i2l, 1) := by decide +kernel
theorem dL_line_8 : decode cL_line 8 = .ok (.lastore, 1) := by decide +kernel
theorem dL_line_9 : decode cL_line 9 = .ok (.goto 6, 3) := by decide +kernel
theorem dL_line_12 : decode cL_line 12 = .ok (.astore_n 3, 1) := by decide +kernel
theorem dL_line_13 : decode cL_line 13 = .ok (.iconst 1, 1) := by decide +kernel
theorem dL_line_14 : decode cL_line 14 = .ok (.ireturn, 1) := by decide +kernel
theorem dL_line_15 : decode cL_line 15 = .ok (.iconst 0, 1) := by decide +kernel
theorem dL_line_16 : decode cL_line 16 = .ok (.ireturn, 1) := by decide +kernel
theorem dL_holds_0 : decode cL_holds 0 = .ok (.aload 5, 2) := by decide +kernel
theorem dL_holds_2 : decode cL_holds 2 = .ok (.iconst 0, 1) := by decide +kernel
theorem dL_holds_3 : decode cL_holds 3 = .ok (.aload_n 0, 1) := by decide +kernel
theorem dL_holds_4 : decode cL_holds 4 = .ok (.iload_n 1, 1) := by decide +kernel
theorem dL_holds_5 : decode cL_holds 5 = .ok (.iload_n 2, 1) := by decide +kernel
theorem dL_holds_6 : decode cL_holds 6 = .ok (.iload_n 3, 1) := by decide +kernel
theorem dL_holds_7 : decode cL_holds 7 = .ok (.iload 4, 2) := by decide +kernel
theorem dL_holds_9 : decode cL_holds 9 = .ok (.invokevirtual 50, 3) := by decide +kernel
theorem dL_holds_12 : decode cL_holds 12 = .ok (.i2l, 1) := by decide +kernel
theorem dL_holds_13 : decode cL_holds 13 = .ok (.lastore, 1) := by decide +kernel
theorem dL_holds_14 : decode cL_holds 14 = .ok (.goto 11, 3) := by decide +kernel
theorem dL_holds_17 : decode cL_holds 17 = .ok (.astore 6, 2) := by decide +kernel
theorem dL_holds_19 : decode cL_holds 19 = .ok (.iconst 1, 1) := by decide +kernel
theorem dL_holds_20 : decode cL_holds 20 = .ok (.ireturn, 1) := by decide +kernel
theorem dL_holds_21 : decode cL_holds 21 = .ok (.astore 6, 2) := by decide +kernel
theorem dL_holds_23 : decode cL_holds 23 = .ok (.iconst 2, 1) := by decide +kernel
theorem dL_holds_24 : decode cL_holds 24 = .ok (.ireturn, 1) := by decide +kernel
theorem dL_holds_25 : decode cL_holds 25 = .ok (.iconst 0, 1) := by decide +kernel
theorem dL_holds_26 : decode cL_holds 26 = .ok (.ireturn, 1) := by decide +kernel
theorem dL_glue_0 : decode cL_glue 0 = .ok (.aload 5, 2) := by decide +kernel
theorem dL_glue_2 : decode cL_glue 2 = .ok (.iconst 0, 1) := by decide +kernel
theorem dL_glue_3 : decode cL_glue 3 = .ok (.aload_n 0, 1) := by decide +kernel
theorem dL_glue_4 : decode cL_glue 4 = .ok (.iload_n 1, 1) := by decide +kernel
theorem dL_glue_5 : decode cL_glue 5 = .ok (.iload_n 2, 1) := by decide +kernel
theorem dL_glue_6 : decode cL_glue 6 = .ok (.iload_n 3, 1) := by decide +kernel
theorem dL_glue_7 : decode cL_glue 7 = .ok (.iload 4, 2) := by decide +kernel
theorem dL_glue_9 : decode cL_glue 9 = .ok (.invokevirtual 54, 3) := by decide +kernel
theorem dL_glue_12 : decode cL_glue 12 = .ok (.i2l, 1) := by decide +kernel
theorem dL_glue_13 : decode cL_glue 13 = .ok (.lastore, 1) := by decide +kernel
theorem dL_glue_14 : decode cL_glue 14 = .ok (.goto 11, 3) := by decide +kernel
theorem dL_glue_17 : decode cL_glue 17 = .ok (.astore 6, 2) := by decide +kernel
theorem dL_glue_19 : decode cL_glue 19 = .ok (.iconst 1, 1) := by decide +kernel
theorem dL_glue_20 : decode cL_glue 20 = .ok (.ireturn, 1) := by decide +kernel
theorem dL_glue_21 : decode cL_glue 21 = .ok (.astore 6, 2) := by decide +kernel
theorem dL_glue_23 : decode cL_glue 23 = .ok (.iconst 2, 1) := by decide +kernel
theorem dL_glue_24 : decode cL_glue 24 = .ok (.ireturn, 1) := by decide +kernel
theorem dL_glue_25 : decode cL_glue 25 = .ok (.iconst 0, 1) := by decide +kernel
theorem dL_glue_26 : decode cL_glue 26 = .ok (.ireturn, 1) := by decide +kernel
theorem dL_patch_0 : decode cL_patch 0 = .ok (.aload 6, 2) := by decide +kernel
theorem dL_patch_2 : decode cL_patch 2 = .ok (.iconst 0, 1) := by decide +kernel
theorem dL_patch_3 : decode cL_patch 3 = .ok (.aload_n 0, 1) := by decide +kernel
theorem dL_patch_4 : decode cL_patch 4 = .ok (.iload_n 1, 1) := by decide +kernel
theorem dL_patch_5 : decode cL_patch 5 = .ok (.iload_n 2, 1) := by decide +kernel
theorem dL_patch_6 : decode cL_patch 6 = .ok (.iload_n 3, 1) := by decide +kernel
theorem dL_patch_7 : decode cL_patch 7 = .ok (.iload 4, 2) := by decide +kernel
theorem dL_patch_9 : decode cL_patch 9 = .ok (.iload 5, 2) := by decide +kernel
theorem dL_patch_11 : decode cL_patch 11 = .ok (.invokevirtual 57, 3) := by decide +kernel
theorem dL_patch_14 : decode cL_patch 14 = .ok (.ifCond .eq 7, 3) := by decide +kernel
theorem dL_patch_17 : decode cL_patch 17 = .ok (.lconst 1, 1) := by decide +kernel
theorem dL_patch_18 : decode cL_patch 18 = .ok (.goto 4, 3) := by decide +kernel
theorem dL_patch_21 : decode cL_patch 21 = .ok (.lconst 0, 1) := by decide +kernel
theorem dL_patch_22 : decode cL_patch 22 = .ok (.lastore, 1) := by decide +kernel
theorem dL_patch_23 : decode cL_patch 23 = .ok (.goto 11, 3) := by decide +kernel
theorem dL_patch_26 : decode cL_patch 26 = .ok (.astore 7, 2) := by decide +kernel
theorem dL_patch_28 : decode cL_patch 28 = .ok (.iconst 1, 1) := by decide +kernel
theorem dL_patch_29 : decode cL_patch 29 = .ok (.ireturn, 1) := by decide +kernel
theorem dL_patch_30 : decode cL_patch 30 = .ok (.astore 7, 2) := by decide +kernel
theorem dL_patch_32 : decode cL_patch 32 = .ok (.iconst 2, 1) := by decide +kernel
theorem dL_patch_33 : decode cL_patch 33 = .ok (.ireturn, 1) := by decide +kernel
theorem dL_patch_34 : decode cL_patch 34 = .ok (.iconst 0, 1) := by decide +kernel
theorem dL_patch_35 : decode cL_patch 35 = .ok (.ireturn, 1) := by decide +kernel
theorem dL_feel_0 : decode cL_feel 0 = .ok (.aload_n 2, 1) := by decide +kernel
theorem dL_feel_1 : decode cL_feel 1 = .ok (.iconst 0, 1) := by decide +kernel
theorem dL_feel_2 : decode cL_feel 2 = .ok (.aload_n 0, 1) := by decide +kernel
theorem dL_feel_3 : decode cL_feel 3 = .ok (.iload_n 1, 1) := by decide +kernel
theorem dL_feel_4 : decode cL_feel 4 = .ok (.invokevirtual 61, 3) := by decide +kernel
theorem dL_feel_7 : decode cL_feel 7 = .ok (.i2l, 1) := by decide +kernel
theorem dL_feel_8 : decode cL_feel 8 = .ok (.lastore, 1) := by decide +kernel
theorem dL_feel_9 : decode cL_feel 9 = .ok (.goto 6, 3) := by decide +kernel
theorem dL_feel_12 : decode cL_feel 12 = .ok (.astore_n 3, 1) := by decide +kernel
theorem dL_feel_13 : decode cL_feel 13 = .ok (.iconst 1, 1) := by decide +kernel
theorem dL_feel_14 : decode cL_feel 14 = .ok (.ireturn, 1) := by decide +kernel
theorem dL_feel_15 : decode cL_feel 15 = .ok (.iconst 0, 1) := by decide +kernel
theorem dL_feel_16 : decode cL_feel 16 = .ok (.ireturn, 1) := by decide +kernel
theorem dL_fits_0 : decode cL_fits 0 = .ok (.aload_n 2, 1) := by decide +kernel
theorem dL_fits_1 : decode cL_fits 1 = .ok (.iconst 0, 1) := by decide +kernel
theorem dL_fits_2 : decode cL_fits 2 = .ok (.aload_n 0, 1) := by decide +kernel
theorem dL_fits_3 : decode cL_fits 3 = .ok (.iload_n 1, 1) := by decide +kernel
theorem dL_fits_4 : decode cL_fits 4 = .ok (.invokevirtual 64, 3) := by decide +kernel
theorem dL_fits_7 : decode cL_fits 7 = .ok (.i2l, 1) := by decide +kernel
theorem dL_fits_8 : decode cL_fits 8 = .ok (.lastore, 1) := by decide +kernel
theorem dL_fits_9 : decode cL_fits 9 = .ok (.goto 6, 3) := by decide +kernel
theorem dL_fits_12 : decode cL_fits 12 = .ok (.astore_n 3, 1) := by decide +kernel
theorem dL_fits_13 : decode cL_fits 13 = .ok (.iconst 1, 1) := by decide +kernel
theorem dL_fits_14 : decode cL_fits 14 = .ok (.ireturn, 1) := by decide +kernel
theorem dL_fits_15 : decode cL_fits 15 = .ok (.iconst 0, 1) := by decide +kernel
theorem dL_fits_16 : decode cL_fits 16 = .ok (.ireturn, 1) := by decide +kernel
theorem dL_cause_0 : decode cL_cause 0 = .ok (.aload_n 3, 1) := by decide +kernel
theorem dL_cause_1 : decode cL_cause 1 = .ok (.iconst 0, 1) := by decide +kernel
theorem dL_cause_2 : decode cL_cause 2 = .ok (.aload_n 0, 1) := by decide +kernel
theorem dL_cause_3 : decode cL_cause 3 = .ok (.iload_n 1, 1) := by decide +kernel
theorem dL_cause_4 : decode cL_cause 4 = .ok (.iload_n 2, 1) := by decide +kernel
theorem dL_cause_5 : decode cL_cause 5 = .ok (.invokevirtual 67, 3) := by decide +kernel
theorem dL_cause_8 : decode cL_cause 8 = .ok (.i2l, 1) := by decide +kernel
theorem dL_cause_9 : decode cL_cause 9 = .ok (.lastore, 1) := by decide +kernel
theorem dL_cause_10 : decode cL_cause 10 = .ok (.goto 7, 3) := by decide +kernel
theorem dL_cause_13 : decode cL_cause 13 = .ok (.astore 4, 2) := by decide +kernel
theorem dL_cause_15 : decode cL_cause 15 = .ok (.iconst 1, 1) := by decide +kernel
theorem dL_cause_16 : decode cL_cause 16 = .ok (.ireturn, 1) := by decide +kernel
theorem dL_cause_17 : decode cL_cause 17 = .ok (.iconst 0, 1) := by decide +kernel
theorem dL_cause_18 : decode cL_cause 18 = .ok (.ireturn, 1) := by decide +kernel
theorem dL_ride_0 : decode cL_ride 0 = .ok (.aload_n 3, 1) := by decide +kernel
theorem dL_ride_1 : decode cL_ride 1 = .ok (.iconst 0, 1) := by decide +kernel
theorem dL_ride_2 : decode cL_ride 2 = .ok (.aload_n 0, 1) := by decide +kernel
theorem dL_ride_3 : decode cL_ride 3 = .ok (.iload_n 1, 1) := by decide +kernel
theorem dL_ride_4 : decode cL_ride 4 = .ok (.iload_n 2, 1) := by decide +kernel
theorem dL_ride_5 : decode cL_ride 5 = .ok (.invokevirtual 70, 3) := by decide +kernel
theorem dL_ride_8 : decode cL_ride 8 = .ok (.i2l, 1) := by decide +kernel
theorem dL_ride_9 : decode cL_ride 9 = .ok (.lastore, 1) := by decide +kernel
theorem dL_ride_10 : decode cL_ride 10 = .ok (.goto 11, 3) := by decide +kernel
theorem dL_ride_13 : decode cL_ride 13 = .ok (.astore 4, 2) := by decide +kernel
theorem dL_ride_15 : decode cL_ride 15 = .ok (.iconst 1, 1) := by decide +kernel
theorem dL_ride_16 : decode cL_ride 16 = .ok (.ireturn, 1) := by decide +kernel
theorem dL_ride_17 : decode cL_ride 17 = .ok (.astore 4, 2) := by decide +kernel
theorem dL_ride_19 : decode cL_ride 19 = .ok (.iconst 2, 1) := by decide +kernel
theorem dL_ride_20 : decode cL_ride 20 = .ok (.ireturn, 1) := by decide +kernel
theorem dL_ride_21 : decode cL_ride 21 = .ok (.iconst 0, 1) := by decide +kernel
theorem dL_ride_22 : decode cL_ride 22 = .ok (.ireturn, 1) := by decide +kernel
theorem dL_best_0 : decode cL_best 0 = .ok (.aload 6, 2) := by decide +kernel
theorem dL_best_2 : decode cL_best 2 = .ok (.iconst 0, 1) := by decide +kernel
theorem dL_best_3 : decode cL_best 3 = .ok (.aload_n 0, 1) := by decide +kernel
theorem dL_best_4 : decode cL_best 4 = .ok (.iload_n 1, 1) := by decide +kernel
theorem dL_best_5 : decode cL_best 5 = .ok (.iload_n 2, 1) := by decide +kernel
theorem dL_best_6 : decode cL_best 6 = .ok (.iload_n 3, 1) := by decide +kernel
theorem dL_best_7 : decode cL_best 7 = .ok (.iload 4, 2) := by decide +kernel
theorem dL_best_9 : decode cL_best 9 = .ok (.iload 5, 2) := by decide +kernel
theorem dL_best_11 : decode cL_best 11 = .ok (.invokevirtual 73, 3) := by decide +kernel
theorem dL_best_14 : decode cL_best 14 = .ok (.i2l, 1) := by decide +kernel
theorem dL_best_15 : decode cL_best 15 = .ok (.lastore, 1) := by decide +kernel
theorem dL_best_16 : decode cL_best 16 = .ok (.goto 11, 3) := by decide +kernel
theorem dL_best_19 : decode cL_best 19 = .ok (.astore 7, 2) := by decide +kernel
theorem dL_best_21 : decode cL_best 21 = .ok (.iconst 1, 1) := by decide +kernel
theorem dL_best_22 : decode cL_best 22 = .ok (.ireturn, 1) := by decide +kernel
theorem dL_best_23 : decode cL_best 23 = .ok (.astore 7, 2) := by decide +kernel
theorem dL_best_25 : decode cL_best 25 = .ok (.iconst 2, 1) := by decide +kernel
theorem dL_best_26 : decode cL_best 26 = .ok (.ireturn, 1) := by decide +kernel
theorem dL_best_27 : decode cL_best 27 = .ok (.iconst 0, 1) := by decide +kernel
theorem dL_best_28 : decode cL_best 28 = .ok (.ireturn, 1) := by decide +kernel
theorem dL_dark_0 : decode cL_dark 0 = .ok (.aload_n 2, 1) := by decide +kernel
theorem dL_dark_1 : decode cL_dark 1 = .ok (.iconst 0, 1) := by decide +kernel
theorem dL_dark_2 : decode cL_dark 2 = .ok (.aload_n 0, 1) := by decide +kernel
theorem dL_dark_3 : decode cL_dark 3 = .ok (.iload_n 1, 1) := by decide +kernel
theorem dL_dark_4 : decode cL_dark 4 = .ok (.invokevirtual 77, 3) := by decide +kernel
theorem dL_dark_7 : decode cL_dark 7 = .ok (.i2l, 1) := by decide +kernel
theorem dL_dark_8 : decode cL_dark 8 = .ok (.lastore, 1) := by decide +kernel
theorem dL_dark_9 : decode cL_dark 9 = .ok (.goto 6, 3) := by decide +kernel
theorem dL_dark_12 : decode cL_dark 12 = .ok (.astore_n 3, 1) := by decide +kernel
theorem dL_dark_13 : decode cL_dark 13 = .ok (.iconst 1, 1) := by decide +kernel
theorem dL_dark_14 : decode cL_dark 14 = .ok (.ireturn, 1) := by decide +kernel
theorem dL_dark_15 : decode cL_dark 15 = .ok (.iconst 0, 1) := by decide +kernel
theorem dL_dark_16 : decode cL_dark 16 = .ok (.ireturn, 1) := by decide +kernel
theorem dL_mean_0 : decode cL_mean 0 = .ok (.aload_n 2, 1) := by decide +kernel
theorem dL_mean_1 : decode cL_mean 1 = .ok (.iconst 0, 1) := by decide +kernel
theorem dL_mean_2 : decode cL_mean 2 = .ok (.aload_n 0, 1) := by decide +kernel
theorem dL_mean_3 : decode cL_mean 3 = .ok (.iload_n 1, 1) := by decide +kernel
theorem dL_mean_4 : decode cL_mean 4 = .ok (.invokevirtual 80, 3) := by decide +kernel
theorem dL_mean_7 : decode cL_mean 7 = .ok (.i2l, 1) := by decide +kernel
theorem dL_mean_8 : decode cL_mean 8 = .ok (.lastore, 1) := by decide +kernel
theorem dL_mean_9 : decode cL_mean 9 = .ok (.goto 6, 3) := by decide +kernel
theorem dL_mean_12 : decode cL_mean 12 = .ok (.astore_n 3, 1) := by decide +kernel
theorem dL_mean_13 : decode cL_mean 13 = .ok (.iconst 1, 1) := by decide +kernel
theorem dL_mean_14 : decode cL_mean 14 = .ok (.ireturn, 1) := by decide +kernel
theorem dL_mean_15 : decode cL_mean 15 = .ok (.iconst 0, 1) := by decide +kernel
theorem dL_mean_16 : decode cL_mean 16 = .ok (.ireturn, 1) := by decide +kernel
theorem dL_tacks_0 : decode cL_tacks 0 = .ok (.aload_n 2, 1) := by decide +kernel
theorem dL_tacks_1 : decode cL_tacks 1 = .ok (.iconst 0, 1) := by decide +kernel
theorem dL_tacks_2 : decode cL_tacks 2 = .ok (.aload_n 0, 1) := by decide +kernel
theorem dL_tacks_3 : decode cL_tacks 3 = .ok (.iload_n 1, 1) := by decide +kernel
theorem dL_tacks_4 : decode cL_tacks 4 = .ok (.invokevirtual 83, 3) := by decide +kernel
theorem dL_tacks_7 : decode cL_tacks 7 = .ok (.i2l, 1) := by decide +kernel
theorem dL_tacks_8 : decode cL_tacks 8 = .ok (.lastore, 1) := by decide +kernel
theorem dL_tacks_9 : decode cL_tacks 9 = .ok (.goto 6, 3) := by decide +kernel
theorem dL_tacks_12 : decode cL_tacks 12 = .ok (.astore_n 3, 1) := by decide +kernel
theorem dL_tacks_13 : decode cL_tacks 13 = .ok (.iconst 1, 1) := by decide +kernel
theorem dL_tacks_14 : decode cL_tacks 14 = .ok (.ireturn, 1) := by decide +kernel
theorem dL_tacks_15 : decode cL_tacks 15 = .ok (.iconst 0, 1) := by decide +kernel
theorem dL_tacks_16 : decode cL_tacks 16 = .ok (.ireturn, 1) := by decide +kernel
theorem dL_cell_0 : decode cL_cell 0 = .ok (.aload_n 2, 1) := by decide +kernel
theorem dL_cell_1 : decode cL_cell 1 = .ok (.iconst 0, 1) := by decide +kernel
theorem dL_cell_2 : decode cL_cell 2 = .ok (.aload_n 0, 1) := by decide +kernel
theorem dL_cell_3 : decode cL_cell 3 = .ok (.iload_n 1, 1) := by decide +kernel
theorem dL_cell_4 : decode cL_cell 4 = .ok (.invokevirtual 86, 3) := by decide +kernel
theorem dL_cell_7 : decode cL_cell 7 = .ok (.i2l, 1) := by decide +kernel
theorem dL_cell_8 : decode cL_cell 8 = .ok (.lastore, 1) := by decide +kernel
theorem dL_cell_9 : decode cL_cell 9 = .ok (.goto 6, 3) := by decide +kernel
theorem dL_cell_12 : decode cL_cell 12 = .ok (.astore_n 3, 1) := by decide +kernel
theorem dL_cell_13 : decode cL_cell 13 = .ok (.iconst 1, 1) := by decide +kernel
theorem dL_cell_14 : decode cL_cell 14 = .ok (.ireturn, 1) := by decide +kernel
theorem dL_cell_15 : decode cL_cell 15 = .ok (.iconst 0, 1) := by decide +kernel
theorem dL_cell_16 : decode cL_cell 16 = .ok (.ireturn, 1) := by decide +kernel
theorem dL_sweep_0 : decode cL_sweep 0 = .ok (.aload 5, 2) := by decide +kernel
theorem dL_sweep_2 : decode cL_sweep 2 = .ok (.iconst 0, 1) := by decide +kernel
theorem dL_sweep_3 : decode cL_sweep 3 = .ok (.aload_n 0, 1) := by decide +kernel
theorem dL_sweep_4 : decode cL_sweep 4 = .ok (.iload_n 1, 1) := by decide +kernel
theorem dL_sweep_5 : decode cL_sweep 5 = .ok (.iload_n 2, 1) := by decide +kernel
theorem dL_sweep_6 : decode cL_sweep 6 = .ok (.iload_n 3, 1) := by decide +kernel
theorem dL_sweep_7 : decode cL_sweep 7 = .ok (.iload 4, 2) := by decide +kernel
theorem dL_sweep_9 : decode cL_sweep 9 = .ok (.invokevirtual 89, 3) := by decide +kernel
theorem dL_sweep_12 : decode cL_sweep 12 = .ok (.i2l, 1) := by decide +kernel
theorem dL_sweep_13 : decode cL_sweep 13 = .ok (.lastore, 1) := by decide +kernel
theorem dL_sweep_14 : decode cL_sweep 14 = .ok (.goto 11, 3) := by decide +kernel
theorem dL_sweep_17 : decode cL_sweep 17 = .ok (.astore 6, 2) := by decide +kernel
theorem dL_sweep_19 : decode cL_sweep 19 = .ok (.iconst 1, 1) := by decide +kernel
theorem dL_sweep_20 : decode cL_sweep 20 = .ok (.ireturn, 1) := by decide +kernel
theorem dL_sweep_21 : decode cL_sweep 21 = .ok (.astore 6, 2) := by decide +kernel
theorem dL_sweep_23 : decode cL_sweep 23 = .ok (.iconst 2, 1) := by decide +kernel
theorem dL_sweep_24 : decode cL_sweep 24 = .ok (.ireturn, 1) := by decide +kernel
theorem dL_sweep_25 : decode cL_sweep 25 = .ok (.iconst 0, 1) := by decide +kernel
theorem dL_sweep_26 : decode cL_sweep 26 = .ok (.ireturn, 1) := by decide +kernel
theorem dL_seeks_0 : decode cL_seeks 0 = .ok (.aload 5, 2) := by decide +kernel
theorem dL_seeks_2 : decode cL_seeks 2 = .ok (.iconst 0, 1) := by decide +kernel
theorem dL_seeks_3 : decode cL_seeks 3 = .ok (.aload_n 0, 1) := by decide +kernel
theorem dL_seeks_4 : decode cL_seeks 4 = .ok (.iload_n 1, 1) := by decide +kernel
theorem dL_seeks_5 : decode cL_seeks 5 = .ok (.iload_n 2, 1) := by decide +kernel
theorem dL_seeks_6 : decode cL_seeks 6 = .ok (.iload_n 3, 1) := by decide +kernel
theorem dL_seeks_7 : decode cL_seeks 7 = .ok (.iload 4, 2) := by decide +kernel
theorem dL_seeks_9 : decode cL_seeks 9 = .ok (.invokevirtual 93, 3) := by decide +kernel
theorem dL_seeks_12 : decode cL_seeks 12 = .ok (.i2l, 1) := by decide +kernel
theorem dL_seeks_13 : decode cL_seeks 13 = .ok (.lastore, 1) := by decide +kernel
theorem dL_seeks_14 : decode cL_seeks 14 = .ok (.goto 11, 3) := by decide +kernel
theorem dL_seeks_17 : decode cL_seeks 17 = .ok (.astore 6, 2) := by decide +kernel
theorem dL_seeks_19 : decode cL_seeks 19 = .ok (.iconst 1, 1) := by decide +kernel
theorem dL_seeks_20 : decode cL_seeks 20 = .ok (.ireturn, 1) := by decide +kernel
theorem dL_seeks_21 : decode cL_seeks 21 = .ok (.astore 6, 2) := by decide +kernel
theorem dL_seeks_23 : decode cL_seeks 23 = .ok (.iconst 2, 1) := by decide +kernel
theorem dL_seeks_24 : decode cL_seeks 24 = .ok (.ireturn, 1) := by decide +kernel
theorem dL_seeks_25 : decode cL_seeks 25 = .ok (.iconst 0, 1) := by decide +kernel
theorem dL_seeks_26 : decode cL_seeks 26 = .ok (.ireturn, 1) := by decide +kernel
theorem dL_enough_0 : decode cL_enough 0 = .ok (.aload_n 2, 1) := by decide +kernel
theorem dL_enough_1 : decode cL_enough 1 = .ok (.iconst 0, 1) := by decide +kernel
theorem dL_enough_2 : decode cL_enough 2 = .ok (.aload_n 0, 1) := by decide +kernel
theorem dL_enough_3 : decode cL_enough 3 = .ok (.iload_n 1, 1) := by decide +kernel
theorem dL_enough_4 : decode cL_enough 4 = .ok (.invokevirtual 97, 3) := by decide +kernel
theorem dL_enough_7 : decode cL_enough 7 = .ok (.i2l, 1) := by decide +kernel
theorem dL_enough_8 : decode cL_enough 8 = .ok (.lastore, 1) := by decide +kernel
theorem dL_enough_9 : decode cL_enough 9 = .ok (.goto 6, 3) := by decide +kernel
theorem dL_enough_12 : decode cL_enough 12 = .ok (.astore_n 3, 1) := by decide +kernel
theorem dL_enough_13 : decode cL_enough 13 = .ok (.iconst 1, 1) := by decide +kernel
theorem dL_enough_14 : decode cL_enough 14 = .ok (.ireturn, 1) := by decide +kernel
theorem dL_enough_15 : decode cL_enough 15 = .ok (.iconst 0, 1) := by decide +kernel
theorem dL_enough_16 : decode cL_enough 16 = .ok (.ireturn, 1) := by decide +kernel
theorem dL_ofInch_0 : decode cL_ofInch 0 = .ok (.aload_n 2, 1) := by decide +kernel
theorem dL_ofInch_1 : decode cL_ofInch 1 = .ok (.iconst 0, 1) := by decide +kernel
theorem dL_ofInch_2 : decode cL_ofInch 2 = .ok (.aload_n 0, 1) := by decide +kernel
theorem dL_ofInch_3 : decode cL_ofInch 3 = .ok (.iload_n 1, 1) := by decide +kernel
theorem dL_ofInch_4 : decode cL_ofInch 4 = .ok (.invokevirtual 100, 3) := by decide +kernel
theorem dL_ofInch_7 : decode cL_ofInch 7 = .ok (.i2l, 1) := by decide +kernel
theorem dL_ofInch_8 : decode cL_ofInch 8 = .ok (.lastore, 1) := by decide +kernel
theorem dL_ofInch_9 : decode cL_ofInch 9 = .ok (.goto 6, 3) := by decide +kernel
theorem dL_ofInch_12 : decode cL_ofInch 12 = .ok (.astore_n 3, 1) := by decide +kernel
theorem dL_ofInch_13 : decode cL_ofInch 13 = .ok (.iconst 1, 1) := by decide +kernel
theorem dL_ofInch_14 : decode cL_ofInch 14 = .ok (.ireturn, 1) := by decide +kernel
theorem dL_ofInch_15 : decode cL_ofInch 15 = .ok (.iconst 0, 1) := by decide +kernel
theorem dL_ofInch_16 : decode cL_ofInch 16 = .ok (.ireturn, 1) := by decide +kernel
theorem dL_ofSide_0 : decode cL_ofSide 0 = .ok (.aload_n 2, 1) := by decide +kernel
theorem dL_ofSide_1 : decode cL_ofSide 1 = .ok (.iconst 0, 1) := by decide +kernel
theorem dL_ofSide_2 : decode cL_ofSide 2 = .ok (.aload_n 0, 1) := by decide +kernel
theorem dL_ofSide_3 : decode cL_ofSide 3 = .ok (.iload_n 1, 1) := by decide +kernel
theorem dL_ofSide_4 : decode cL_ofSide 4 = .ok (.invokevirtual 103, 3) := by decide +kernel
theorem dL_ofSide_7 : decode cL_ofSide 7 = .ok (.i2l, 1) := by decide +kernel
theorem dL_ofSide_8 : decode cL_ofSide 8 = .ok (.lastore, 1) := by decide +kernel
theorem dL_ofSide_9 : decode cL_ofSide 9 = .ok (.goto 6, 3) := by decide +kernel
theorem dL_ofSide_12 : decode cL_ofSide 12 = .ok (.astore_n 3, 1) := by decide +kernel
theorem dL_ofSide_13 : decode cL_ofSide 13 = .ok (.iconst 1, 1) := by decide +kernel
theorem dL_ofSide_14 : decode cL_ofSide 14 = .ok (.ireturn, 1) := by decide +kernel
theorem dL_ofSide_15 : decode cL_ofSide 15 = .ok (.iconst 0, 1) := by decide +kernel
theorem dL_ofSide_16 : decode cL_ofSide 16 = .ok (.ireturn, 1) := by decide +kernel
theorem dL_flatIf_0 : decode cL_flatIf 0 = .ok (.aload_n 3, 1) := by decide +kernel
theorem dL_flatIf_1 : decode cL_flatIf 1 = .ok (.iconst 0, 1) := by decide +kernel
theorem dL_flatIf_2 : decode cL_flatIf 2 = .ok (.aload_n 0, 1) := by decide +kernel
theorem dL_flatIf_3 : decode cL_flatIf 3 = .ok (.iload_n 1, 1) := by decide +kernel
theorem dL_flatIf_4 : decode cL_flatIf 4 = .ok (.iload_n 2, 1) := by decide +kernel
theorem dL_flatIf_5 : decode cL_flatIf 5 = .ok (.invokevirtual 106, 3) := by decide +kernel
theorem dL_flatIf_8 : decode cL_flatIf 8 = .ok (.i2l, 1) := by decide +kernel
theorem dL_flatIf_9 : decode cL_flatIf 9 = .ok (.lastore, 1) := by decide +kernel
theorem dL_flatIf_10 : decode cL_flatIf 10 = .ok (.goto 7, 3) := by decide +kernel
theorem dL_flatIf_13 : decode cL_flatIf 13 = .ok (.astore 4, 2) := by decide +kernel
theorem dL_flatIf_15 : decode cL_flatIf 15 = .ok (.iconst 1, 1) := by decide +kernel
theorem dL_flatIf_16 : decode cL_flatIf 16 = .ok (.ireturn, 1) := by decide +kernel
theorem dL_flatIf_17 : decode cL_flatIf 17 = .ok (.iconst 0, 1) := by decide +kernel
theorem dL_flatIf_18 : decode cL_flatIf 18 = .ok (.ireturn, 1) := by decide +kernel
theorem dL_which_0 : decode cL_which 0 = .ok (.aload 4, 2) := by decide +kernel
theorem dL_which_2 : decode cL_which 2 = .ok (.iconst 0, 1) := by decide +kernel
theorem dL_which_3 : decode cL_which 3 = .ok (.aload_n 0, 1) := by decide +kernel
theorem dL_which_4 : decode cL_which 4 = .ok (.iload_n 1, 1) := by decide +kernel
theorem dL_which_5 : decode cL_which 5 = .ok (.iload_n 2, 1) := by decide +kernel
theorem dL_which_6 : decode cL_which 6 = .ok (.iload_n 3, 1) := by decide +kernel
theorem dL_which_7 : decode cL_which 7 = .ok (.invokevirtual 110, 3) := by decide +kernel
theorem dL_which_10 : decode cL_which 10 = .ok (.i2l, 1) := by decide +kernel
theorem dL_which_11 : decode cL_which 11 = .ok (.lastore, 1) := by decide +kernel
theorem dL_which_12 : decode cL_which 12 = .ok (.goto 7, 3) := by decide +kernel
theorem dL_which_15 : decode cL_which 15 = .ok (.astore 5, 2) := by decide +kernel
theorem dL_which_17 : decode cL_which 17 = .ok (.iconst 1, 1) := by decide +kernel
theorem dL_which_18 : decode cL_which 18 = .ok (.ireturn, 1) := by decide +kernel
theorem dL_which_19 : decode cL_which 19 = .ok (.iconst 0, 1) := by decide +kernel
theorem dL_which_20 : decode cL_which 20 = .ok (.ireturn, 1) := by decide +kernel
theorem dL_rides_0 : decode cL_rides 0 = .ok (.aload_n 2, 1) := by decide +kernel
theorem dL_rides_1 : decode cL_rides 1 = .ok (.iconst 0, 1) := by decide +kernel
theorem dL_rides_2 : decode cL_rides 2 = .ok (.aload_n 0, 1) := by decide +kernel
theorem dL_rides_3 : decode cL_rides 3 = .ok (.iload_n 1, 1) := by decide +kernel
theorem dL_rides_4 : decode cL_rides 4 = .ok (.invokevirtual 113, 3) := by decide +kernel
theorem dL_rides_7 : decode cL_rides 7 = .ok (.i2l, 1) := by decide +kernel
theorem dL_rides_8 : decode cL_rides 8 = .ok (.lastore, 1) := by decide +kernel
theorem dL_rides_9 : decode cL_rides 9 = .ok (.goto 6, 3) := by decide +kernel
theorem dL_rides_12 : decode cL_rides 12 = .ok (.astore_n 3, 1) := by decide +kernel
theorem dL_rides_13 : decode cL_rides 13 = .ok (.iconst 1, 1) := by decide +kernel
theorem dL_rides_14 : decode cL_rides 14 = .ok (.ireturn, 1) := by decide +kernel
theorem dL_rides_15 : decode cL_rides 15 = .ok (.iconst 0, 1) := by decide +kernel
theorem dL_rides_16 : decode cL_rides 16 = .ok (.ireturn, 1) := by decide +kernel
