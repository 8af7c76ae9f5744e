theorem dX0_ofCauses_0 : decode cX0_ofCauses 0 = .ok (.iconst 4, 1) := by decide +kernel
theorem dX0_ofCauses_1 : decode cX0_ofCauses 1 = .ok (.aload_n 0, 1) := by decide +kernel
theorem dX0_ofCauses_2 : decode cX0_ofCauses 2 = .ok (.invokevirtual 9, 3) := by decide +kernel
theorem dX0_ofCauses_5 : decode cX0_ofCauses 5 = .ok (.imul, 1) := by decide +kernel
theorem dX0_ofCauses_6 : decode cX0_ofCauses 6 = .ok (.newarray .long, 2) := by decide +kernel
theorem dX0_ofCauses_8 : decode cX0_ofCauses 8 = .ok (.astore_n 1, 1) := by decide +kernel
theorem dX0_ofCauses_9 : decode cX0_ofCauses 9 = .ok (.iconst 0, 1) := by decide +kernel
theorem dX0_ofCauses_10 : decode cX0_ofCauses 10 = .ok (.istore_n 2, 1) := by decide +kernel
theorem dX0_ofCauses_11 : decode cX0_ofCauses 11 = .ok (.iload_n 2, 1) := by decide +kernel
theorem dX0_ofCauses_12 : decode cX0_ofCauses 12 = .ok (.aload_n 1, 1) := by decide +kernel
theorem dX0_ofCauses_13 : decode cX0_ofCauses 13 = .ok (.arraylength, 1) := by decide +kernel
theorem dX0_ofCauses_14 : decode cX0_ofCauses 14 = .ok (.if_icmp .ge 49, 3) := by decide +kernel
theorem dX0_ofCauses_17 : decode cX0_ofCauses 17 = .ok (.iconst 0, 1) := by decide +kernel
theorem dX0_ofCauses_18 : decode cX0_ofCauses 18 = .ok (.istore_n 3, 1) := by decide +kernel
theorem dX0_ofCauses_19 : decode cX0_ofCauses 19 = .ok (.iload_n 3, 1) := by decide +kernel
theorem dX0_ofCauses_20 : decode cX0_ofCauses 20 = .ok (.iconst 4, 1) := by decide +kernel
theorem dX0_ofCauses_21 : decode cX0_ofCauses 21 = .ok (.if_icmp .ge 36, 3) := by decide +kernel
theorem dX0_ofCauses_24 : decode cX0_ofCauses 24 = .ok (.iload_n 3, 1) := by decide +kernel
theorem dX0_ofCauses_25 : decode cX0_ofCauses 25 = .ok (.iload_n 2, 1) := by decide +kernel
theorem dX0_ofCauses_26 : decode cX0_ofCauses 26 = .ok (.iconst 4, 1) := by decide +kernel
theorem dX0_ofCauses_27 : decode cX0_ofCauses 27 = .ok (.idiv, 1) := by decide +kernel
theorem dX0_ofCauses_28 : decode cX0_ofCauses 28 = .ok (.iload_n 2, 1) := by decide +kernel
theorem dX0_ofCauses_29 : decode cX0_ofCauses 29 = .ok (.iconst 4, 1) := by decide +kernel
theorem dX0_ofCauses_30 : decode cX0_ofCauses 30 = .ok (.irem, 1) := by decide +kernel
theorem dX0_ofCauses_31 : decode cX0_ofCauses 31 = .ok (.invokestatic 15, 3) := by decide +kernel
theorem dX0_ofCauses_34 : decode cX0_ofCauses 34 = .ok (.ifCond .eq 17, 3) := by decide +kernel
theorem dX0_ofCauses_37 : decode cX0_ofCauses 37 = .ok (.aload_n 1, 1) := by decide +kernel
theorem dX0_ofCauses_38 : decode cX0_ofCauses 38 = .ok (.iload_n 2, 1) := by decide +kernel
theorem dX0_ofCauses_39 : decode cX0_ofCauses 39 = .ok (.dup2, 1) := by decide +kernel
theorem dX0_ofCauses_40 : decode cX0_ofCauses 40 = .ok (.laload, 1) := by decide +kernel
theorem dX0_ofCauses_41 : decode cX0_ofCauses 41 = .ok (.aload_n 0, 1) := by decide +kernel
theorem dX0_ofCauses_42 : decode cX0_ofCauses 42 = .ok (.iload_n 3, 1) := by decide +kernel
theorem dX0_ofCauses_43 : decode cX0_ofCauses 43 = .ok (.ldc2_w 19, 3) := by decide +kernel
theorem dX0_ofCauses_46 : decode cX0_ofCauses 46 = .ok (.invokevirtual 21, 3) := by decide +kernel
theorem dX0_ofCauses_49 : decode cX0_ofCauses 49 = .ok (.ladd, 1) := by decide +kernel
theorem dX0_ofCauses_50 : decode cX0_ofCauses 50 = .ok (.lastore, 1) := by decide +kernel
theorem dX0_ofCauses_51 : decode cX0_ofCauses 51 = .ok (.iinc 3 1, 3) := by decide +kernel
theorem dX0_ofCauses_54 : decode cX0_ofCauses 54 = .ok (.goto (-35), 3) := by decide +kernel
theorem dX0_ofCauses_57 : decode cX0_ofCauses 57 = .ok (.iinc 2 1, 3) := by decide +kernel
theorem dX0_ofCauses_60 : decode cX0_ofCauses 60 = .ok (.goto (-49), 3) := by decide +kernel
theorem dX0_ofCauses_63 : decode cX0_ofCauses 63 = .ok (.aload_n 1, 1) := by decide +kernel
theorem dX0_ofCauses_64 : decode cX0_ofCauses 64 = .ok (.areturn, 1) := by decide +kernel
theorem dX0_total_0 : decode cX0_total 0 = .ok (.lconst 0, 1) := by decide +kernel
theorem dX0_total_1 : decode cX0_total 1 = .ok (.lstore_n 1, 1) := by decide +kernel
theorem dX0_total_2 : decode cX0_total 2 = .ok (.iconst 0, 1) := by decide +kernel
theorem dX0_total_3 : decode cX0_total 3 = .ok (.istore_n 3, 1) := by decide +kernel
theorem dX0_total_4 : decode cX0_total 4 = .ok (.iload_n 3, 1) := by decide +kernel
theorem dX0_total_5 : decode cX0_total 5 = .ok (.aload_n 0, 1) := by decide +kernel
theorem dX0_total_6 : decode cX0_total 6 = .ok (.arraylength, 1) := by decide +kernel
theorem dX0_total_7 : decode cX0_total 7 = .ok (.if_icmp .ge 15, 3) := by decide +kernel
theorem dX0_total_10 : decode cX0_total 10 = .ok (.lload_n 1, 1) := by decide +kernel
theorem dX0_total_11 : decode cX0_total 11 = .ok (.aload_n 0, 1) := by decide +kernel
theorem dX0_total_12 : decode cX0_total 12 = .ok (.iload_n 3, 1) := by decide +kernel
theorem dX0_total_13 : decode cX0_total 13 = .ok (.laload, 1) := by decide +kernel
theorem dX0_total_14 : decode cX0_total 14 = .ok (.ladd, 1) := by decide +kernel
theorem dX0_total_15 : decode cX0_total 15 = .ok (.lstore_n 1, 1) := by decide +kernel
theorem dX0_total_16 : decode cX0_total 16 = .ok (.iinc 3 1, 3) := by decide +kernel
theorem dX0_total_19 : decode cX0_total 19 = .ok (.goto (-15), 3) := by decide +kernel
theorem dX0_total_22 : decode cX0_total 22 = .ok (.lload_n 1, 1) := by decide +kernel
theorem dX0_total_23 : decode cX0_total 23 = .ok (.lreturn, 1) := by decide +kernel
theorem dX0_totalOfInch_0 : decode cX0_totalOfInch 0 = .ok (.lconst 0, 1) := by decide +kernel
theorem dX0_totalOfInch_1 : decode cX0_totalOfInch 1 = .ok (.lstore_n 2, 1) := by decide +kernel
theorem dX0_totalOfInch_2 : decode cX0_totalOfInch 2 = .ok (.iconst 4, 1) := by decide +kernel
theorem dX0_totalOfInch_3 : decode cX0_totalOfInch 3 = .ok (.iload_n 1, 1) := by decide +kernel
theorem dX0_totalOfInch_4 : decode cX0_totalOfInch 4 = .ok (.imul, 1) := by decide +kernel
theorem dX0_totalOfInch_5 : decode cX0_totalOfInch 5 = .ok (.istore 4, 2) := by decide +kernel
theorem dX0_totalOfInch_7 : decode cX0_totalOfInch 7 = .ok (.iload 4, 2) := by decide +kernel
theorem dX0_totalOfInch_9 : decode cX0_totalOfInch 9 = .ok (.ifCond .lt 33, 3) := by decide +kernel
theorem dX0_totalOfInch_12 : decode cX0_totalOfInch 12 = .ok (.iload 4, 2) := by decide +kernel
theorem dX0_totalOfInch_14 : decode cX0_totalOfInch 14 = .ok (.iconst 4, 1) := by decide +kernel
theorem dX0_totalOfInch_15 : decode cX0_totalOfInch 15 = .ok (.iload_n 1, 1) := by decide +kernel
theorem dX0_totalOfInch_16 : decode cX0_totalOfInch 16 = .ok (.imul, 1) := by decide +kernel
theorem dX0_totalOfInch_17 : decode cX0_totalOfInch 17 = .ok (.iconst 4, 1) := by decide +kernel
theorem dX0_totalOfInch_18 : decode cX0_totalOfInch 18 = .ok (.iadd, 1) := by decide +kernel
theorem dX0_totalOfInch_19 : decode cX0_totalOfInch 19 = .ok (.if_icmp .ge 23, 3) := by decide +kernel
theorem dX0_totalOfInch_22 : decode cX0_totalOfInch 22 = .ok (.iload 4, 2) := by decide +kernel
theorem dX0_totalOfInch_24 : decode cX0_totalOfInch 24 = .ok (.aload_n 0, 1) := by decide +kernel
theorem dX0_totalOfInch_25 : decode cX0_totalOfInch 25 = .ok (.arraylength, 1) := by decide +kernel
theorem dX0_totalOfInch_26 : decode cX0_totalOfInch 26 = .ok (.if_icmp .ge 16, 3) := by decide +kernel
theorem dX0_totalOfInch_29 : decode cX0_totalOfInch 29 = .ok (.lload_n 2, 1) := by decide +kernel
theorem dX0_totalOfInch_30 : decode cX0_totalOfInch 30 = .ok (.aload_n 0, 1) := by decide +kernel
theorem dX0_totalOfInch_31 : decode cX0_totalOfInch 31 = .ok (.iload 4, 2) := by decide +kernel
theorem dX0_totalOfInch_33 : decode cX0_totalOfInch 33 = .ok (.laload, 1) := by decide +kernel
theorem dX0_totalOfInch_34 : decode cX0_totalOfInch 34 = .ok (.ladd, 1) := by decide +kernel
theorem dX0_totalOfInch_35 : decode cX0_totalOfInch 35 = .ok (.lstore_n 2, 1) := by decide +kernel
theorem dX0_totalOfInch_36 : decode cX0_totalOfInch 36 = .ok (.iinc 4 1, 3) := by decide +kernel
theorem dX0_totalOfInch_39 : decode cX0_totalOfInch 39 = .ok (.goto (-32), 3) := by decide +kernel
theorem dX0_totalOfInch_42 : decode cX0_totalOfInch 42 = .ok (.lload_n 2, 1) := by decide +kernel
theorem dX0_totalOfInch_43 : decode cX0_totalOfInch 43 = .ok (.lreturn, 1) := by decide +kernel
theorem dX0_totalOfSide_0 : decode cX0_totalOfSide 0 = .ok (.lconst 0, 1) := by decide +kernel
theorem dX0_totalOfSide_1 : decode cX0_totalOfSide 1 = .ok (.lstore_n 2, 1) := by decide +kernel
theorem dX0_totalOfSide_2 : decode cX0_totalOfSide 2 = .ok (.iload_n 1, 1) := by decide +kernel
theorem dX0_totalOfSide_3 : decode cX0_totalOfSide 3 = .ok (.istore 4, 2) := by decide +kernel
theorem dX0_totalOfSide_5 : decode cX0_totalOfSide 5 = .ok (.iload 4, 2) := by decide +kernel
theorem dX0_totalOfSide_7 : decode cX0_totalOfSide 7 = .ok (.ifCond .lt 23, 3) := by decide +kernel
theorem dX0_totalOfSide_10 : decode cX0_totalOfSide 10 = .ok (.iload 4, 2) := by decide +kernel
theorem dX0_totalOfSide_12 : decode cX0_totalOfSide 12 = .ok (.aload_n 0, 1) := by decide +kernel
theorem dX0_totalOfSide_13 : decode cX0_totalOfSide 13 = .ok (.arraylength, 1) := by decide +kernel
theorem dX0_totalOfSide_14 : decode cX0_totalOfSide 14 = .ok (.if_icmp .ge 16, 3) := by decide +kernel
theorem dX0_totalOfSide_17 : decode cX0_totalOfSide 17 = .ok (.lload_n 2, 1) := by decide +kernel
theorem dX0_totalOfSide_18 : decode cX0_totalOfSide 18 = .ok (.aload_n 0, 1) := by decide +kernel
theorem dX0_totalOfSide_19 : decode cX0_totalOfSide 19 = .ok (.iload 4, 2) := by decide +kernel
theorem dX0_totalOfSide_21 : decode cX0_totalOfSide 21 = .ok (.laload, 1) := by decide +kernel
theorem dX0_totalOfSide_22 : decode cX0_totalOfSide 22 = .ok (.ladd, 1) := by decide +kernel
theorem dX0_totalOfSide_23 : decode cX0_totalOfSide 23 = .ok (.lstore_n 2, 1) := by decide +kernel
theorem dX0_totalOfSide_24 : decode cX0_totalOfSide 24 = .ok (.iinc 4 4, 3) := by decide +kernel
theorem dX0_totalOfSide_27 : decode cX0_totalOfSide 27 = .ok (.goto (-22), 3) := by decide +kernel
theorem dX0_totalOfSide_30 : decode cX0_totalOfSide 30 = .ok (.lload_n 2, 1) := by decide +kernel
theorem dX0_totalOfSide_31 : decode cX0_totalOfSide 31 = .ok (.lreturn, 1) := by decide +kernel
theorem dX0_likeliest_0 : decode cX0_likeliest 0 = .ok (.iconst 0, 1) := by decide +kernel
theorem dX0_likeliest_1 : decode cX0_likeliest 1 = .ok (.istore_n 1, 1) := by decide +kernel
theorem dX0_likeliest_2 : decode cX0_likeliest 2 = .ok (.iconst 1, 1) := by decide +kernel
theorem dX0_likeliest_3 : decode cX0_likeliest 3 = .ok (.istore_n 2, 1) := by decide +kernel
theorem dX0_likeliest_4 : decode cX0_likeliest 4 = .ok (.iload_n 2, 1) := by decide +kernel
theorem dX0_likeliest_5 : decode cX0_likeliest 5 = .ok (.aload_n 0, 1) := by decide +kernel
theorem dX0_likeliest_6 : decode cX0_likeliest 6 = .ok (.arraylength, 1) := by decide +kernel
theorem dX0_likeliest_7 : decode cX0_likeliest 7 = .ok (.if_icmp .ge 21, 3) := by decide +kernel
theorem dX0_likeliest_10 : decode cX0_likeliest 10 = .ok (.aload_n 0, 1) := by decide +kernel
theorem dX0_likeliest_11 : decode cX0_likeliest 11 = .ok (.iload_n 2, 1) := by decide +kernel
theorem dX0_likeliest_12 : decode cX0_likeliest 12 = .ok (.laload, 1) := by decide +kernel
theorem dX0_likeliest_13 : decode cX0_likeliest 13 = .ok (.aload_n 0, 1) := by decide +kernel
theorem dX0_likeliest_14 : decode cX0_likeliest 14 = .ok (.iload_n 1, 1) := by decide +kernel
theorem dX0_likeliest_15 : decode cX0_likeliest 15 = .ok (.laload, 1) := by decide +kernel
theorem dX0_likeliest_16 : decode cX0_likeliest 16 = .ok (.lcmp, 1) := by decide +kernel
theorem dX0_likeliest_17 : decode cX0_likeliest 17 = .ok (.ifCond .le 5, 3) := by decide +kernel
theorem dX0_likeliest_20 : decode cX0_likeliest 20 = .ok (.iload_n 2, 1) := by decide +kernel
theorem dX0_likeliest_21 : decode cX0_likeliest 21 = .ok (.istore_n 1, 1) := by decide +kernel
theorem dX0_likeliest_22 : decode cX0_likeliest 22 = .ok (.iinc 2 1, 3) := by decide +kernel
theorem dX0_likeliest_25 : decode cX0_likeliest 25 = .ok (.goto (-21), 3) := by decide +kernel
theorem dX0_likeliest_28 : decode cX0_likeliest 28 = .ok (.iload_n 1, 1) := by decide +kernel
theorem dX0_likeliest_29 : decode cX0_likeliest 29 = .ok (.ireturn, 1) := by decide +kernel
theorem dX0_lessenInch_0 : decode cX0_lessenInch 0 = .ok (.iconst 4, 1) := by decide +kernel
theorem dX0_lessenInch_1 : decode cX0_lessenInch 1 = .ok (.iload_n 1, 1) := by decide +kernel
theorem dX0_lessenInch_2 : decode cX0_lessenInch 2 = .ok (.imul, 1) := by decide +kernel
theorem dX0_lessenInch_3 : decode cX0_lessenInch 3 = .ok (.istore 4, 2) := by decide +kernel
theorem dX0_lessenInch_5 : decode cX0_lessenInch 5 = .ok (.iload 4, 2) := by decide +kernel
theorem dX0_lessenInch_7 : decode cX0_lessenInch 7 = .ok (.ifCond .lt 71, 3) := by decide +kernel
theorem dX0_lessenInch_10 : decode cX0_lessenInch 10 = .ok (.iload 4, 2) := by decide +kernel
theorem dX0_lessenInch_12 : decode cX0_lessenInch 12 = .ok (.iconst 4, 1) := by decide +kernel
theorem dX0_lessenInch_13 : decode cX0_lessenInch 13 = .ok (.iload_n 1, 1) := by decide +kernel
theorem dX0_lessenInch_14 : decode cX0_lessenInch 14 = .ok (.imul, 1) := by decide +kernel
theorem dX0_lessenInch_15 : decode cX0_lessenInch 15 = .ok (.iconst 4, 1) := by decide +kernel
theorem dX0_lessenInch_16 : decode cX0_lessenInch 16 = .ok (.iadd, 1) := by decide +kernel
theorem dX0_lessenInch_17 : decode cX0_lessenInch 17 = .ok (.if_icmp .ge 61, 3) := by decide +kernel
theorem dX0_lessenInch_20 : decode cX0_lessenInch 20 = .ok (.iload 4, 2) := by decide +kernel
theorem dX0_lessenInch_22 : decode cX0_lessenInch 22 = .ok (.aload_n 0, 1) := by decide +kernel
theorem dX0_lessenInch_23 : decode cX0_lessenInch 23 = .ok (.arraylength, 1) := by decide +kernel
theorem dX0_lessenInch_24 : decode cX0_lessenInch 24 = .ok (.if_icmp .ge 54, 3) := by decide +kernel
theorem dX0_lessenInch_27 : decode cX0_lessenInch 27 = .ok (.aload_n 0, 1) := by decide +kernel
theorem dX0_lessenInch_28 : decode cX0_lessenInch 28 = .ok (.iload 4, 2) := by decide +kernel
theorem dX0_lessenInch_30 : decode cX0_lessenInch 30 = .ok (.laload, 1) := by decide +kernel
theorem dX0_lessenInch_31 : decode cX0_lessenInch 31 = .ok (.lstore 5, 2) := by decide +kernel
theorem dX0_lessenInch_33 : decode cX0_lessenInch 33 = .ok (.iconst 0, 1) := by decide +kernel
theorem dX0_lessenInch_34 : decode cX0_lessenInch 34 = .ok (.istore 7, 2) := by decide +kernel
theorem dX0_lessenInch_36 : decode cX0_lessenInch 36 = .ok (.iload 7, 2) := by decide +kernel
theorem dX0_lessenInch_38 : decode cX0_lessenInch 38 = .ok (.iload_n 3, 1) := by decide +kernel
theorem dX0_lessenInch_39 : decode cX0_lessenInch 39 = .ok (.if_icmp .ge 27, 3) := by decide +kernel
theorem dX0_lessenInch_42 : decode cX0_lessenInch 42 = .ok (.lload 5, 2) := by decide +kernel
theorem dX0_lessenInch_44 : decode cX0_lessenInch 44 = .ok (.lconst 0, 1) := by decide +kernel
theorem dX0_lessenInch_45 : decode cX0_lessenInch 45 = .ok (.lcmp, 1) := by decide +kernel
theorem dX0_lessenInch_46 : decode cX0_lessenInch 46 = .ok (.ifCond .le 20, 3) := by decide +kernel
theorem dX0_lessenInch_49 : decode cX0_lessenInch 49 = .ok (.lload 5, 2) := by decide +kernel
theorem dX0_lessenInch_51 : decode cX0_lessenInch 51 = .ok (.iload_n 2, 1) := by decide +kernel
theorem dX0_lessenInch_52 : decode cX0_lessenInch 52 = .ok (.i2l, 1) := by decide +kernel
theorem dX0_lessenInch_53 : decode cX0_lessenInch 53 = .ok (.lmul, 1) := by decide +kernel
theorem dX0_lessenInch_54 : decode cX0_lessenInch 54 = .ok (.ldc2_w 25, 3) := by decide +kernel
theorem dX0_lessenInch_57 : decode cX0_lessenInch 57 = .ok (.ldiv, 1) := by decide +kernel
theorem dX0_lessenInch_58 : decode cX0_lessenInch 58 = .ok (.lstore 5, 2) := by decide +kernel
theorem dX0_lessenInch_60 : decode cX0_lessenInch 60 = .ok (.iinc 7 1, 3) := by decide +kernel
theorem dX0_lessenInch_63 : decode cX0_lessenInch 63 = .ok (.goto (-27), 3) := by decide +kernel
theorem dX0_lessenInch_66 : decode cX0_lessenInch 66 = .ok (.aload_n 0, 1) := by decide +kernel
theorem dX0_lessenInch_67 : decode cX0_lessenInch 67 = .ok (.iload 4, 2) := by decide +kernel
theorem dX0_lessenInch_69 : decode cX0_lessenInch 69 = .ok (.lload 5, 2) := by decide +kernel
theorem dX0_lessenInch_71 : decode cX0_lessenInch 71 = .ok (.lastore, 1) := by decide +kernel
theorem dX0_lessenInch_72 : decode cX0_lessenInch 72 = .ok (.iinc 4 1, 3) := by decide +kernel
theorem dX0_lessenInch_75 : decode cX0_lessenInch 75 = .ok (.goto (-70), 3) := by decide +kernel
theorem dX0_lessenInch_78 : decode cX0_lessenInch 78 = .ok (.return_, 1) := by decide +kernel
theorem dX0_raiseOuter_0 : decode cX0_raiseOuter 0 = .ok (.iconst 4, 1) := by decide +kernel
theorem dX0_raiseOuter_1 : decode cX0_raiseOuter 1 = .ok (.iload_n 1, 1) := by decide +kernel
theorem dX0_raiseOuter_2 : decode cX0_raiseOuter 2 = .ok (.imul, 1) := by decide +kernel
theorem dX0_raiseOuter_3 : decode cX0_raiseOuter 3 = .ok (.iconst 0, 1) := by decide +kernel
theorem dX0_raiseOuter_4 : decode cX0_raiseOuter 4 = .ok (.iadd, 1) := by decide +kernel
theorem dX0_raiseOuter_5 : decode cX0_raiseOuter 5 = .ok (.istore_n 2, 1) := by decide +kernel
theorem dX0_raiseOuter_6 : decode cX0_raiseOuter 6 = .ok (.iload_n 2, 1) := by decide +kernel
theorem dX0_raiseOuter_7 : decode cX0_raiseOuter 7 = .ok (.ifCond .lt 25, 3) := by decide +kernel
theorem dX0_raiseOuter_10 : decode cX0_raiseOuter 10 = .ok (.iload_n 2, 1) := by decide +kernel
theorem dX0_raiseOuter_11 : decode cX0_raiseOuter 11 = .ok (.aload_n 0, 1) := by decide +kernel
theorem dX0_raiseOuter_12 : decode cX0_raiseOuter 12 = .ok (.arraylength, 1) := by decide +kernel
theorem dX0_raiseOuter_13 : decode cX0_raiseOuter 13 = .ok (.if_icmp .ge 19, 3) := by decide +kernel
theorem dX0_raiseOuter_16 : decode cX0_raiseOuter 16 = .ok (.aload_n 0, 1) := by decide +kernel
theorem dX0_raiseOuter_17 : decode cX0_raiseOuter 17 = .ok (.iload_n 2, 1) := by decide +kernel
theorem dX0_raiseOuter_18 : decode cX0_raiseOuter 18 = .ok (.ldc2_w 27, 3) := by decide +kernel
theorem dX0_raiseOuter_21 : decode cX0_raiseOuter 21 = .ok (.aload_n 0, 1) := by decide +kernel
theorem dX0_raiseOuter_22 : decode cX0_raiseOuter 22 = .ok (.iload_n 2, 1) := by decide +kernel
theorem dX0_raiseOuter_23 : decode cX0_raiseOuter 23 = .ok (.laload, 1) := by decide +kernel
theorem dX0_raiseOuter_24 : decode cX0_raiseOuter 24 = .ok (.lmul, 1) := by decide +kernel
theorem dX0_raiseOuter_25 : decode cX0_raiseOuter 25 = .ok (.ldc2_w 29, 3) := by decide +kernel
theorem dX0_raiseOuter_28 : decode cX0_raiseOuter 28 = .ok (.invokestatic 31, 3) := by decide +kernel
theorem dX0_raiseOuter_31 : decode cX0_raiseOuter 31 = .ok (.lastore, 1) := by decide +kernel
theorem dX0_raiseOuter_32 : decode cX0_raiseOuter 32 = .ok (.return_, 1) := by decide +kernel
theorem dX1_init_0 : decode cX1_init 0 = .ok (.aload_n 0, 1) := by decide +kernel
theorem dX1_init_1 : decode cX1_init 1 = .ok (.invokespecial 3, 3) := by decide +kernel
theorem dX1_init_4 : decode cX1_init 4 = .ok (.aload_n 0, 1) := by decide +kernel
theorem dX1_init_5 : decode cX1_init 5 = .ok (.bipush 6, 2) := by decide +kernel
theorem dX1_init_7 : decode cX1_init 7 = .ok (.newarray .int, 2) := by decide +kernel
theorem dX1_init_9 : decode cX1_init 9 = .ok (.putfield 9, 3) := by decide +kernel
theorem dX1_init_12 : decode cX1_init 12 = .ok (.aload_n 0, 1) := by decide +kernel
theorem dX1_init_13 : decode cX1_init 13 = .ok (.bipush 6, 2) := by decide +kernel
theorem dX1_init_15 : decode cX1_init 15 = .ok (.newarray .int, 2) := by decide +kernel
theorem dX1_init_17 : decode cX1_init 17 = .ok (.putfield 15, 3) := by decide +kernel
theorem dX1_init_20 : decode cX1_init 20 = .ok (.aload_n 0, 1) := by decide +kernel
theorem dX1_init_21 : decode cX1_init 21 = .ok (.bipush 6, 2) := by decide +kernel
theorem dX1_init_23 : decode cX1_init 23 = .ok (.newarray .int, 2) := by decide +kernel
theorem dX1_init_25 : decode cX1_init 25 = .ok (.putfield 18, 3) := by decide +kernel
theorem dX1_init_28 : decode cX1_init 28 = .ok (.return_, 1) := by decide +kernel
theorem dX1_all_0 : decode cX1_all 0 = .ok (.iconst 1, 1) := by decide +kernel
theorem dX1_all_1 : decode cX1_all 1 = .ok (.aload_n 0, 1) := by decide +kernel
theorem dX1_all_2 : decode cX1_all 2 = .ok (.getfield 21, 3) := by decide +kernel
theorem dX1_all_5 : decode cX1_all 5 = .ok (.ishl, 1) := by decide +kernel
theorem dX1_all_6 : decode cX1_all 6 = .ok (.iconst 1, 1) := by decide +kernel
theorem dX1_all_7 : decode cX1_all 7 = .ok (.isub, 1) := by decide +kernel
theorem dX1_all_8 : decode cX1_all 8 = .ok (.ireturn, 1) := by decide +kernel
theorem dX1_isSlow_0 : decode cX1_isSlow 0 = .ok (.aload_n 0, 1) := by decide +kernel
theorem dX1_isSlow_1 : decode cX1_isSlow 1 = .ok (.getfield 25, 3) := by decide +kernel
theorem dX1_isSlow_4 : decode cX1_isSlow 4 = .ok (.iload_n 1, 1) := by decide +kernel
theorem dX1_isSlow_5 : decode cX1_isSlow 5 = .ok (.ishr, 1) := by decide +kernel
theorem dX1_isSlow_6 : decode cX1_isSlow 6 = .ok (.iconst 1, 1) := by decide +kernel
theorem dX1_isSlow_7 : decode cX1_isSlow 7 = .ok (.iand, 1) := by decide +kernel
theorem dX1_isSlow_8 : decode cX1_isSlow 8 = .ok (.iconst 1, 1) := by decide +kernel
theorem dX1_isSlow_9 : decode cX1_isSlow 9 = .ok (.if_icmp .ne 7, 3) := by decide +kernel
theorem dX1_isSlow_12 : decode cX1_isSlow 12 = .ok (.iconst 1, 1) := by decide +kernel
theorem dX1_isSlow_13 : decode cX1_isSlow 13 = .ok (.goto 4, 3) := by decide +kernel
theorem dX1_isSlow_16 : decode cX1_isSlow 16 = .ok (.iconst 0, 1) := by decide +kernel
theorem dX1_isSlow_17 : decode cX1_isSlow 17 = .ok (.ireturn, 1) := by decide +kernel
theorem dX1_isAt_0 : decode cX1_isAt 0 = .ok (.iconst 0, 1) := by decide +kernel
theorem dX1_isAt_1 : decode cX1_isAt 1 = .ok (.istore_n 3, 1) := by decide +kernel
theorem dX1_isAt_2 : decode cX1_isAt 2 = .ok (.iload_n 3, 1) := by decide +kernel
theorem dX1_isAt_3 : decode cX1_isAt 3 = .ok (.aload_n 0, 1) := by decide +kernel
theorem dX1_isAt_4 : decode cX1_isAt 4 = .ok (.getfield 21, 3) := by decide +kernel
theorem dX1_isAt_7 : decode cX1_isAt 7 = .ok (.if_icmp .ge 31, 3) := by decide +kernel
theorem dX1_isAt_10 : decode cX1_isAt 10 = .ok (.aload_n 0, 1) := by decide +kernel
theorem dX1_isAt_11 : decode cX1_isAt 11 = .ok (.getfield 9, 3) := by decide +kernel
theorem dX1_isAt_14 : decode cX1_isAt 14 = .ok (.iload_n 3, 1) := by decide +kernel
theorem dX1_isAt_15 : decode cX1_isAt 15 = .ok (.iaload, 1) := by decide +kernel
theorem dX1_isAt_16 : decode cX1_isAt 16 = .ok (.iload_n 1, 1) := by decide +kernel
theorem dX1_isAt_17 : decode cX1_isAt 17 = .ok (.if_icmp .ne 15, 3) := by decide +kernel
theorem dX1_isAt_20 : decode cX1_isAt 20 = .ok (.aload_n 0, 1) := by decide +kernel
theorem dX1_isAt_21 : decode cX1_isAt 21 = .ok (.getfield 15, 3) := by decide +kernel
theorem dX1_isAt_24 : decode cX1_isAt 24 = .ok (.iload_n 3, 1) := by decide +kernel
theorem dX1_isAt_25 : decode cX1_isAt 25 = .ok (.iaload, 1) := by decide +kernel
theorem dX1_isAt_26 : decode cX1_isAt 26 = .ok (.iload_n 2, 1) := by decide +kernel
theorem dX1_isAt_27 : decode cX1_isAt 27 = .ok (.if_icmp .ne 5, 3) := by decide +kernel
theorem dX1_isAt_30 : decode cX1_isAt 30 = .ok (.iconst 1, 1) := by decide +kernel
theorem dX1_isAt_31 : decode cX1_isAt 31 = .ok (.ireturn, 1) := by decide +kernel
theorem dX1_isAt_32 : decode cX1_isAt 32 = .ok (.iinc 3 1, 3) := by decide +kernel
theorem dX1_isAt_35 : decode cX1_isAt 35 = .ok (.goto (-33), 3) := by decide +kernel
theorem dX1_isAt_38 : decode cX1_isAt 38 = .ok (.iconst 0, 1) := by decide +kernel
theorem dX1_isAt_39 : decode cX1_isAt 39 = .ok (.ireturn, 1) := by decide +kernel
theorem dX1_add_0 : decode cX1_add 0 = .ok (.aload_n 0, 1) := by decide +kernel
theorem dX1_add_1 : decode cX1_add 1 = .ok (.getfield 21, 3) := by decide +kernel
theorem dX1_add_4 : decode cX1_add 4 = .ok (.bipush 6, 2) := by decide +kernel
theorem dX1_add_6 : decode cX1_add 6 = .ok (.if_icmp .ge 79, 3) := by decide +kernel
theorem dX1_add_9 : decode cX1_add 9 = .ok (.aload_n 0, 1) := by decide +kernel
theorem dX1_add_10 : decode cX1_add 10 = .ok (.getfield 9, 3) := by decide +kernel
theorem dX1_add_13 : decode cX1_add 13 = .ok (.aload_n 0, 1) := by decide +kernel
theorem dX1_add_14 : decode cX1_add 14 = .ok (.getfield 21, 3) := by decide +kernel
theorem dX1_add_17 : decode cX1_add 17 = .ok (.iload_n 1, 1) := by decide +kernel
theorem dX1_add_18 : decode cX1_add 18 = .ok (.iastore, 1) := by decide +kernel
theorem dX1_add_19 : decode cX1_add 19 = .ok (.aload_n 0, 1) := by decide +kernel
theorem dX1_add_20 : decode cX1_add 20 = .ok (.getfield 15, 3) := by decide +kernel
theorem dX1_add_23 : decode cX1_add 23 = .ok (.aload_n 0, 1) := by decide +kernel
theorem dX1_add_24 : decode cX1_add 24 = .ok (.getfield 21, 3) := by decide +kernel
theorem dX1_add_27 : decode cX1_add 27 = .ok (.iload_n 2, 1) := by decide +kernel
theorem dX1_add_28 : decode cX1_add 28 = .ok (.iastore, 1) := by decide +kernel
theorem dX1_add_29 : decode cX1_add 29 = .ok (.aload_n 0, 1) := by decide +kernel
theorem dX1_add_30 : decode cX1_add 30 = .ok (.getfield 18, 3) := by decide +kernel
theorem dX1_add_33 : decode cX1_add 33 = .ok (.aload_n 0, 1) := by decide +kernel
theorem dX1_add_34 : decode cX1_add 34 = .ok (.getfield 21, 3) := by decide +kernel
theorem dX1_add_37 : decode cX1_add 37 = .ok (.iload_n 3, 1) := by decide +kernel
theorem dX1_add_38 : decode cX1_add 38 = .ok (.iastore, 1) := by decide +kernel
theorem dX1_add_39 : decode cX1_add 39 = .ok (.aload_n 0, 1) := by decide +kernel
theorem dX1_add_40 : decode cX1_add 40 = .ok (.iload 4, 2) := by decide +kernel
theorem dX1_add_42 : decode cX1_add 42 = .ok (.ifCond .eq 17, 3) := by decide +kernel
theorem dX1_add_45 : decode cX1_add 45 = .ok (.aload_n 0, 1) := by decide +kernel
theorem dX1_add_46 : decode cX1_add 46 = .ok (.getfield 25, 3) := by decide +kernel
theorem dX1_add_49 : decode cX1_add 49 = .ok (.iconst 1, 1) := by decide +kernel
theorem dX1_add_50 : decode cX1_add 50 = .ok (.aload_n 0, 1) := by decide +kernel
theorem dX1_add_51 : decode cX1_add 51 = .ok (.getfield 21, 3) := by decide +kernel
theorem dX1_add_54 : decode cX1_add 54 = .ok (.ishl, 1) := by decide +kernel
theorem dX1_add_55 : decode cX1_add 55 = .ok (.ior, 1) := by decide +kernel
theorem dX1_add_56 : decode cX1_add 56 = .ok (.goto 16, 3) := by decide +kernel
theorem dX1_add_59 : decode cX1_add 59 = .ok (.aload_n 0, 1) := by decide +kernel
theorem dX1_add_60 : decode cX1_add 60 = .ok (.getfield 25, 3) := by decide +kernel
theorem dX1_add_63 : decode cX1_add 63 = .ok (.iconst 1, 1) := by decide +kernel
theorem dX1_add_64 : decode cX1_add 64 = .ok (.aload_n 0, 1) := by decide +kernel
theorem dX1_add_65 : decode cX1_add 65 = .ok (.getfield 21, 3) := by decide +kernel
theorem dX1_add_68 : decode cX1_add 68 = .ok (.ishl, 1) := by decide +kernel
theorem dX1_add_69 : decode cX1_add 69 = .ok (.iconst (-1), 1) := by decide +kernel
theorem dX1_add_70 : decode cX1_add 70 = .ok (.ixor, 1) := by decide +kernel
theorem dX1_add_71 : decode cX1_add 71 = .ok (.iand, 1) := by decide +kernel
theorem dX1_add_72 : decode cX1_add 72 = .ok (.putfield 25, 3) := by decide +kernel
theorem dX1_add_75 : decode cX1_add 75 = .ok (.aload_n 0, 1) := by decide +kernel
theorem dX1_add_76 : decode cX1_add 76 = .ok (.dup, 1) := by decide +kernel
theorem dX1_add_77 : decode cX1_add 77 = .ok (.getfield 21, 3) := by decide +kernel
theorem dX1_add_80 : decode cX1_add 80 = .ok (.iconst 1, 1) := by decide +kernel
theorem dX1_add_81 : decode cX1_add 81 = .ok (.iadd, 1) := by decide +kernel
theorem dX1_add_82 : decode cX1_add 82 = .ok (.putfield 21, 3) := by decide +kernel
theorem dX1_add_85 : decode cX1_add 85 = .ok (.return_, 1) := by decide +kernel
theorem dX2_init_0 : decode cX2_init 0 = .ok (.aload_n 0, 1) := by decide +kernel
theorem dX2_init_1 : decode cX2_init 1 = .ok (.invokespecial 3, 3) := by decide +kernel
theorem dX2_init_4 : decode cX2_init 4 = .ok (.aload_n 0, 1) := by decide +kernel
theorem dX2_init_5 : decode cX2_init 5 = .ok (.bipush 8, 2) := by decide +kernel
theorem dX2_init_7 : decode cX2_init 7 = .ok (.newarray .int, 2) := by decide +kernel
theorem dX2_init_9 : decode cX2_init 9 = .ok (.putfield 9, 3) := by decide +kernel
theorem dX2_init_12 : decode cX2_init 12 = .ok (.aload_n 0, 1) := by decide +kernel
theorem dX2_init_13 : decode cX2_init 13 = .ok (.bipush 8, 2) := by decide +kernel
theorem dX2_init_15 : decode cX2_init 15 = .ok (.newarray .int, 2) := by decide +kernel
theorem dX2_init_17 : decode cX2_init 17 = .ok (.putfield 15, 3) := by decide +kernel
theorem dX2_init_20 : decode cX2_init 20 = .ok (.aload_n 0, 1) := by decide +kernel
theorem dX2_init_21 : decode cX2_init 21 = .ok (.bipush 8, 2) := by decide +kernel
theorem dX2_init_23 : decode cX2_init 23 = .ok (.newarray .int, 2) := by decide +kernel
theorem dX2_init_25 : decode cX2_init 25 = .ok (.putfield 18, 3) := by decide +kernel
theorem dX2_init_28 : decode cX2_init 28 = .ok (.aload_n 0, 1) := by decide +kernel
theorem dX2_init_29 : decode cX2_init 29 = .ok (.bipush 8, 2) := by decide +kernel
theorem dX2_init_31 : decode cX2_init 31 = .ok (.newarray .boolean, 2) := by decide +kernel
theorem dX2_init_33 : decode cX2_init 33 = .ok (.putfield 21, 3) := by decide +kernel
theorem dX2_init_36 : decode cX2_init 36 = .ok (.return_, 1) := by decide +kernel
theorem dX2_add_0 : decode cX2_add 0 = .ok (.aload_n 0, 1) := by decide +kernel
theorem dX2_add_1 : decode cX2_add 1 = .ok (.getfield 25, 3) := by decide +kernel
theorem dX2_add_4 : decode cX2_add 4 = .ok (.bipush 8, 2) := by decide +kernel
theorem dX2_add_6 : decode cX2_add 6 = .ok (.if_icmp .ge 62, 3) := by decide +kernel
theorem dX2_add_9 : decode cX2_add 9 = .ok (.aload_n 0, 1) := by decide +kernel
theorem dX2_add_10 : decode cX2_add 10 = .ok (.getfield 9, 3) := by decide +kernel
theorem dX2_add_13 : decode cX2_add 13 = .ok (.aload_n 0, 1) := by decide +kernel
theorem dX2_add_14 : decode cX2_add 14 = .ok (.getfield 25, 3) := by decide +kernel
theorem dX2_add_17 : decode cX2_add 17 = .ok (.iload_n 1, 1) := by decide +kernel
theorem dX2_add_18 : decode cX2_add 18 = .ok (.iload_n 2, 1) := by decide +kernel
theorem dX2_add_19 : decode cX2_add 19 = .ok (.invokestatic 29, 3) := by decide +kernel
theorem dX2_add_22 : decode cX2_add 22 = .ok (.iastore, 1) := by decide +kernel
theorem dX2_add_23 : decode cX2_add 23 = .ok (.aload_n 0, 1) := by decide +kernel
theorem dX2_add_24 : decode cX2_add 24 = .ok (.getfield 15, 3) := by decide +kernel
theorem dX2_add_27 : decode cX2_add 27 = .ok (.aload_n 0, 1) := by decide +kernel
theorem dX2_add_28 : decode cX2_add 28 = .ok (.getfield 25, 3) := by decide +kernel
theorem dX2_add_31 : decode cX2_add 31 = .ok (.iload_n 1, 1) := by decide +kernel
theorem dX2_add_32 : decode cX2_add 32 = .ok (.iload_n 2, 1) := by decide +kernel
theorem dX2_add_33 : decode cX2_add 33 = .ok (.invokestatic 35, 3) := by decide +kernel
theorem dX2_add_36 : decode cX2_add 36 = .ok (.iastore, 1) := by decide +kernel
theorem dX2_add_37 : decode cX2_add 37 = .ok (.aload_n 0, 1) := by decide +kernel
theorem dX2_add_38 : decode cX2_add 38 = .ok (.getfield 18, 3) := by decide +kernel
theorem dX2_add_41 : decode cX2_add 41 = .ok (.aload_n 0, 1) := by decide +kernel
theorem dX2_add_42 : decode cX2_add 42 = .ok (.getfield 25, 3) := by decide +kernel
theorem dX2_add_45 : decode cX2_add 45 = .ok (.iload_n 3, 1) := by decide +kernel
theorem dX2_add_46 : decode cX2_add 46 = .ok (.iastore, 1) := by decide +kernel
theorem dX2_add_47 : decode cX2_add 47 = .ok (.aload_n 0, 1) := by decide +kernel
theorem dX2_add_48 : decode cX2_add 48 = .ok (.getfield 21, 3) := by decide +kernel
theorem dX2_add_51 : decode cX2_add 51 = .ok (.aload_n 0, 1) := by decide +kernel
theorem dX2_add_52 : decode cX2_add 52 = .ok (.getfield 25, 3) := by decide +kernel
theorem dX2_add_55 : decode cX2_add 55 = .ok (.iload 4, 2) := by decide +kernel
theorem dX2_add_57 : decode cX2_add 57 = .ok (.bastore, 1) := by decide +kernel
theorem dX2_add_58 : decode cX2_add 58 = .ok (.aload_n 0, 1) := by decide +kernel
theorem dX2_add_59 : decode cX2_add 59 = .ok (.dup, 1) := by decide +kernel
theorem dX2_add_60 : decode cX2_add 60 = .ok (.getfield 25, 3) := by decide +kernel
theorem dX2_add_63 : decode cX2_add 63 = .ok (.iconst 1, 1) := by decide +kernel
theorem dX2_add_64 : decode cX2_add 64 = .ok (.iadd, 1) := by decide +kernel
theorem dX2_add_65 : decode cX2_add 65 = .ok (.putfield 25, 3) := by decide +kernel
theorem dX2_add_68 : decode cX2_add 68 = .ok (.return_, 1) := by decide +kernel
theorem dX2_hoursFitting_0 : decode cX2_hoursFitting 0 = .ok (.iconst 0, 1) := by decide +kernel
theorem dX2_hoursFitting_1 : decode cX2_hoursFitting 1 = .ok (.istore_n 2, 1) := by decide +kernel
theorem dX2_hoursFitting_2 : decode cX2_hoursFitting 2 = .ok (.iconst 0, 1) := by decide +kernel
theorem dX2_hoursFitting_3 : decode cX2_hoursFitting 3 = .ok (.istore_n 3, 1) := by decide +kernel
theorem dX2_hoursFitting_4 : decode cX2_hoursFitting 4 = .ok (.iload_n 3, 1) := by decide +kernel
theorem dX2_hoursFitting_5 : decode cX2_hoursFitting 5 = .ok (.bipush 24, 2) := by decide +kernel
theorem dX2_hoursFitting_7 : decode cX2_hoursFitting 7 = .ok (.if_icmp .ge 26, 3) := by decide +kernel
theorem dX2_hoursFitting_10 : decode cX2_hoursFitting 10 = .ok (.iload_n 2, 1) := by decide +kernel
theorem dX2_hoursFitting_11 : decode cX2_hoursFitting 11 = .ok (.aload_n 0, 1) := by decide +kernel
theorem dX2_hoursFitting_12 : decode cX2_hoursFitting 12 = .ok (.iload_n 1, 1) := by decide +kernel
theorem dX2_hoursFitting_13 : decode cX2_hoursFitting 13 = .ok (.iload_n 3, 1) := by decide +kernel
theorem dX2_hoursFitting_14 : decode cX2_hoursFitting 14 = .ok (.invokevirtual 38, 3) := by decide +kernel
theorem dX2_hoursFitting_17 : decode cX2_hoursFitting 17 = .ok (.ifCond .eq 7, 3) := by decide +kernel
theorem dX2_hoursFitting_20 : decode cX2_hoursFitting 20 = .ok (.iconst 1, 1) := by decide +kernel
theorem dX2_hoursFitting_21 : decode cX2_hoursFitting 21 = .ok (.goto 4, 3) := by decide +kernel
theorem dX2_hoursFitting_24 : decode cX2_hoursFitting 24 = .ok (.iconst 0, 1) := by decide +kernel
theorem dX2_hoursFitting_25 : decode cX2_hoursFitting 25 = .ok (.iadd, 1) := by decide +kernel
theorem dX2_hoursFitting_26 : decode cX2_hoursFitting 26 = .ok (.istore_n 2, 1) := by decide +kernel
theorem dX2_hoursFitting_27 : decode cX2_hoursFitting 27 = .ok (.iinc 3 1, 3) := by decide +kernel
theorem dX2_hoursFitting_30 : decode cX2_hoursFitting 30 = .ok (.goto (-26), 3) := by decide +kernel
theorem dX2_hoursFitting_33 : decode cX2_hoursFitting 33 = .ok (.iload_n 2, 1) := by decide +kernel
theorem dX2_hoursFitting_34 : decode cX2_hoursFitting 34 = .ok (.ireturn, 1) := by decide +kernel
theorem dX2_firstHourFitting_0 : decode cX2_firstHourFitting 0 = .ok (.iconst 0, 1) := by decide +kernel
theorem dX2_firstHourFitting_1 : decode cX2_firstHourFitting 1 = .ok (.istore_n 2, 1) := by decide +kernel
theorem dX2_firstHourFitting_2 : decode cX2_firstHourFitting 2 = .ok (.iload_n 2, 1) := by decide +kernel
theorem dX2_firstHourFitting_3 : decode cX2_firstHourFitting 3 = .ok (.bipush 24, 2) := by decide +kernel
theorem dX2_firstHourFitting_5 : decode cX2_firstHourFitting 5 = .ok (.if_icmp .ge 20, 3) := by decide +kernel
theorem dX2_firstHourFitting_8 : decode cX2_firstHourFitting 8 = .ok (.aload_n 0, 1) := by decide +kernel
theorem dX2_firstHourFitting_9 : decode cX2_firstHourFitting 9 = .ok (.iload_n 1, 1) := by decide +kernel
theorem dX2_firstHourFitting_10 : decode cX2_firstHourFitting 10 = .ok (.iload_n 2, 1) := by decide +kernel
theorem dX2_firstHourFitting_11 : decode cX2_firstHourFitting 11 = .ok (.invokevirtual 38, 3) := by decide +kernel
theorem dX2_firstHourFitting_14 : decode cX2_firstHourFitting 14 = .ok (.ifCond .eq 5, 3) := by decide +kernel
theorem dX2_firstHourFitting_17 : decode cX2_firstHourFitting 17 = .ok (.iload_n 2, 1) := by decide +kernel
theorem dX2_firstHourFitting_18 : decode cX2_firstHourFitting 18 = .ok (.ireturn, 1) := by decide +kernel
theorem dX2_firstHourFitting_19 : decode cX2_firstHourFitting 19 = .ok (.iinc 2 1, 3) := by decide +kernel
theorem dX2_firstHourFitting_22 : decode cX2_firstHourFitting 22 = .ok (.goto (-20), 3) := by decide +kernel
theorem dX2_firstHourFitting_25 : decode cX2_firstHourFitting 25 = .ok (.iconst (-1), 1) := by decide +kernel
theorem dX2_firstHourFitting_26 : decode cX2_firstHourFitting 26 = .ok (.ireturn, 1) := by decide +kernel
theorem dX2_tacksFit_0 : decode cX2_tacksFit 0 = .ok (.iconst 0, 1) := by decide +kernel
theorem dX2_tacksFit_1 : decode cX2_tacksFit 1 = .ok (.istore_n 3, 1) := by decide +kernel
theorem dX2_tacksFit_2 : decode cX2_tacksFit 2 = .ok (.iload_n 3, 1) := by decide +kernel
theorem dX2_tacksFit_3 : decode cX2_tacksFit 3 = .ok (.aload_n 0, 1) := by decide +kernel
theorem dX2_tacksFit_4 : decode cX2_tacksFit 4 = .ok (.getfield 25, 3) := by decide +kernel
theorem dX2_tacksFit_7 : decode cX2_tacksFit 7 = .ok (.if_icmp .ge 58, 3) := by decide +kernel
theorem dX2_tacksFit_10 : decode cX2_tacksFit 10 = .ok (.iload_n 1, 1) := by decide +kernel
theorem dX2_tacksFit_11 : decode cX2_tacksFit 11 = .ok (.aload_n 0, 1) := by decide +kernel
theorem dX2_tacksFit_12 : decode cX2_tacksFit 12 = .ok (.getfield 9, 3) := by decide +kernel
theorem dX2_tacksFit_15 : decode cX2_tacksFit 15 = .ok (.iload_n 3, 1) := by decide +kernel
theorem dX2_tacksFit_16 : decode cX2_tacksFit 16 = .ok (.iaload, 1) := by decide +kernel
theorem dX2_tacksFit_17 : decode cX2_tacksFit 17 = .ok (.aload_n 0, 1) := by decide +kernel
theorem dX2_tacksFit_18 : decode cX2_tacksFit 18 = .ok (.getfield 15, 3) := by decide +kernel
theorem dX2_tacksFit_21 : decode cX2_tacksFit 21 = .ok (.iload_n 3, 1) := by decide +kernel
theorem dX2_tacksFit_22 : decode cX2_tacksFit 22 = .ok (.iaload, 1) := by decide +kernel
theorem dX2_tacksFit_23 : decode cX2_tacksFit 23 = .ok (.invokestatic 42, 3) := by decide +kernel
theorem dX2_tacksFit_26 : decode cX2_tacksFit 26 = .ok (.ifCond .eq 17, 3) := by decide +kernel
theorem dX2_tacksFit_29 : decode cX2_tacksFit 29 = .ok (.aload_n 0, 1) := by decide +kernel
theorem dX2_tacksFit_30 : decode cX2_tacksFit 30 = .ok (.getfield 18, 3) := by decide +kernel
theorem dX2_tacksFit_33 : decode cX2_tacksFit 33 = .ok (.iload_n 3, 1) := by decide +kernel
theorem dX2_tacksFit_34 : decode cX2_tacksFit 34 = .ok (.iaload, 1) := by decide +kernel
theorem dX2_tacksFit_35 : decode cX2_tacksFit 35 = .ok (.iload_n 2, 1) := by decide +kernel
theorem dX2_tacksFit_36 : decode cX2_tacksFit 36 = .ok (.if_icmp .lt 7, 3) := by decide +kernel
theorem dX2_tacksFit_39 : decode cX2_tacksFit 39 = .ok (.iconst 1, 1) := by decide +kernel
theorem dX2_tacksFit_40 : decode cX2_tacksFit 40 = .ok (.goto 4, 3) := by decide +kernel
theorem dX2_tacksFit_43 : decode cX2_tacksFit 43 = .ok (.iconst 0, 1) := by decide +kernel
theorem dX2_tacksFit_44 : decode cX2_tacksFit 44 = .ok (.istore 4, 2) := by decide +kernel
theorem dX2_tacksFit_46 : decode cX2_tacksFit 46 = .ok (.iload 4, 2) := by decide +kernel
theorem dX2_tacksFit_48 : decode cX2_tacksFit 48 = .ok (.aload_n 0, 1) := by decide +kernel
theorem dX2_tacksFit_49 : decode cX2_tacksFit 49 = .ok (.getfield 21, 3) := by decide +kernel
theorem dX2_tacksFit_52 : decode cX2_tacksFit 52 = .ok (.iload_n 3, 1) := by decide +kernel
theorem dX2_tacksFit_53 : decode cX2_tacksFit 53 = .ok (.baload, 1) := by decide +kernel
theorem dX2_tacksFit_54 : decode cX2_tacksFit 54 = .ok (.if_icmp .eq 5, 3) := by decide +kernel
theorem dX2_tacksFit_57 : decode cX2_tacksFit 57 = .ok (.iconst 0, 1) := by decide +kernel
theorem dX2_tacksFit_58 : decode cX2_tacksFit 58 = .ok (.ireturn, 1) := by decide +kernel
theorem dX2_tacksFit_59 : decode cX2_tacksFit 59 = .ok (.iinc 3 1, 3) := by decide +kernel
theorem dX2_tacksFit_62 : decode cX2_tacksFit 62 = .ok (.goto (-60), 3) := by decide +kernel
theorem dX2_tacksFit_65 : decode cX2_tacksFit 65 = .ok (.iconst 1, 1) := by decide +kernel
theorem dX2_tacksFit_66 : decode cX2_tacksFit 66 = .ok (.ireturn, 1) := by decide +kernel
theorem dX3_init_0 : decode cX3_init 0 = .ok (.aload_n 0, 1) := by decide +kernel
theorem dX3_init_1 : decode cX3_init 1 = .ok (.invokespecial 3, 3) := by decide +kernel
theorem dX3_init_4 : decode cX3_init 4 = .ok (.aload_n 0, 1) := by decide +kernel
theorem dX3_init_5 : decode cX3_init 5 = .ok (.sipush 336, 3) := by decide +kernel
theorem dX3_init_8 : decode cX3_init 8 = .ok (.newarray .long, 2) := by decide +kernel
theorem dX3_init_10 : decode cX3_init 10 = .ok (.putfield 9, 3) := by decide +kernel
theorem dX3_init_13 : decode cX3_init 13 = .ok (.aload_n 0, 1) := by decide +kernel
theorem dX3_init_14 : decode cX3_init 14 = .ok (.bipush 84, 2) := by decide +kernel
theorem dX3_init_16 : decode cX3_init 16 = .ok (.newarray .long, 2) := by decide +kernel
theorem dX3_init_18 : decode cX3_init 18 = .ok (.putfield 15, 3) := by decide +kernel
theorem dX3_init_21 : decode cX3_init 21 = .ok (.aload_n 0, 1) := by decide +kernel
theorem dX3_init_22 : decode cX3_init 22 = .ok (.sipush 600, 3) := by decide +kernel
theorem dX3_init_25 : decode cX3_init 25 = .ok (.newarray .int, 2) := by decide +kernel
theorem dX3_init_27 : decode cX3_init 27 = .ok (.putfield 18, 3) := by decide +kernel
theorem dX3_init_30 : decode cX3_init 30 = .ok (.aload_n 0, 1) := by decide +kernel
theorem dX3_init_31 : decode cX3_init 31 = .ok (.sipush 601, 3) := by decide +kernel
theorem dX3_init_34 : decode cX3_init 34 = .ok (.newarray .long, 2) := by decide +kernel
theorem dX3_init_36 : decode cX3_init 36 = .ok (.putfield 22, 3) := by decide +kernel
theorem dX3_init_39 : decode cX3_init 39 = .ok (.return_, 1) := by decide +kernel
theorem dX3_forget_0 : decode cX3_forget 0 = .ok (.aload_n 0, 1) := by decide +kernel
theorem dX3_forget_1 : decode cX3_forget 1 = .ok (.iconst 0, 1) := by decide +kernel
theorem dX3_forget_2 : decode cX3_forget 2 = .ok (.putfield 25, 3) := by decide +kernel
theorem dX3_forget_5 : decode cX3_forget 5 = .ok (.return_, 1) := by decide +kernel
theorem dX3_begin_0 : decode cX3_begin 0 = .ok (.aload_n 0, 1) := by decide +kernel
theorem dX3_begin_1 : decode cX3_begin 1 = .ok (.aload_n 1, 1) := by decide +kernel
theorem dX3_begin_2 : decode cX3_begin 2 = .ok (.putfield 29, 3) := by decide +kernel
theorem dX3_begin_5 : decode cX3_begin 5 = .ok (.aload_n 2, 1) := by decide +kernel
theorem dX3_begin_6 : decode cX3_begin 6 = .ok (.arraylength, 1) := by decide +kernel
theorem dX3_begin_7 : decode cX3_begin 7 = .ok (.aload_n 0, 1) := by decide +kernel
theorem dX3_begin_8 : decode cX3_begin 8 = .ok (.getfield 9, 3) := by decide +kernel
theorem dX3_begin_11 : decode cX3_begin 11 = .ok (.arraylength, 1) := by decide +kernel
theorem dX3_begin_12 : decode cX3_begin 12 = .ok (.invokestatic 33, 3) := by decide +kernel
theorem dX3_begin_15 : decode cX3_begin 15 = .ok (.istore_n 3, 1) := by decide +kernel
theorem dX3_begin_16 : decode cX3_begin 16 = .ok (.aload_n 2, 1) := by decide +kernel
theorem dX3_begin_17 : decode cX3_begin 17 = .ok (.iconst 0, 1) := by decide +kernel
theorem dX3_begin_18 : decode cX3_begin 18 = .ok (.aload_n 0, 1) := by decide +kernel
theorem dX3_begin_19 : decode cX3_begin 19 = .ok (.getfield 9, 3) := by decide +kernel
theorem dX3_begin_22 : decode cX3_begin 22 = .ok (.iconst 0, 1) := by decide +kernel
theorem dX3_begin_23 : decode cX3_begin 23 = .ok (.iload_n 3, 1) := by decide +kernel
theorem dX3_begin_24 : decode cX3_begin 24 = .ok (.invokestatic 39, 3) := by decide +kernel
theorem dX3_begin_27 : decode cX3_begin 27 = .ok (.iconst 0, 1) := by decide +kernel
theorem dX3_begin_28 : decode cX3_begin 28 = .ok (.istore 4, 2) := by decide +kernel
theorem dX3_begin_30 : decode cX3_begin 30 = .ok (.iload 4, 2) := by decide +kernel
theorem dX3_begin_32 : decode cX3_begin 32 = .ok (.aload_n 0, 1) := by decide +kernel
theorem dX3_begin_33 : decode cX3_begin 33 = .ok (.getfield 29, 3) := by decide +kernel
theorem dX3_begin_36 : decode cX3_begin 36 = .ok (.invokevirtual 45, 3) := by decide +kernel
theorem dX3_begin_39 : decode cX3_begin 39 = .ok (.if_icmp .ge 25, 3) := by decide +kernel
theorem dX3_begin_42 : decode cX3_begin 42 = .ok (.aload_n 0, 1) := by decide +kernel
theorem dX3_begin_43 : decode cX3_begin 43 = .ok (.getfield 15, 3) := by decide +kernel
theorem dX3_begin_46 : decode cX3_begin 46 = .ok (.iload 4, 2) := by decide +kernel
theorem dX3_begin_48 : decode cX3_begin 48 = .ok (.aload_n 0, 1) := by decide +kernel
theorem dX3_begin_49 : decode cX3_begin 49 = .ok (.getfield 9, 3) := by decide +kernel
theorem dX3_begin_52 : decode cX3_begin 52 = .ok (.iload 4, 2) := by decide +kernel
theorem dX3_begin_54 : decode cX3_begin 54 = .ok (.invokestatic 50, 3) := by decide +kernel
theorem dX3_begin_57 : decode cX3_begin 57 = .ok (.lastore, 1) := by decide +kernel
theorem dX3_begin_58 : decode cX3_begin 58 = .ok (.iinc 4 1, 3) := by decide +kernel
theorem dX3_begin_61 : decode cX3_begin 61 = .ok (.goto (-31), 3) := by decide +kernel
theorem dX3_begin_64 : decode cX3_begin 64 = .ok (.aload_n 0, 1) := by decide +kernel
theorem dX3_begin_65 : decode cX3_begin 65 = .ok (.getfield 22, 3) := by decide +kernel
theorem dX3_begin_68 : decode cX3_begin 68 = .ok (.iconst 0, 1) := by decide +kernel
theorem dX3_begin_69 : decode cX3_begin 69 = .ok (.aload_n 2, 1) := by decide +kernel
theorem dX3_begin_70 : decode cX3_begin 70 = .ok (.invokestatic 56, 3) := by decide +kernel
theorem dX3_begin_73 : decode cX3_begin 73 = .ok (.lastore, 1) := by decide +kernel
theorem dX3_begin_74 : decode cX3_begin 74 = .ok (.aload_n 0, 1) := by decide +kernel
theorem dX3_begin_75 : decode cX3_begin 75 = .ok (.iconst 0, 1) := by decide +kernel
theorem dX3_begin_76 : decode cX3_begin 76 = .ok (.putfield 60, 3) := by decide +kernel
theorem dX3_begin_79 : decode cX3_begin 79 = .ok (.aload_n 0, 1) := by decide +kernel
theorem dX3_begin_80 : decode cX3_begin 80 = .ok (.iconst 1, 1) := by decide +kernel
theorem dX3_begin_81 : decode cX3_begin 81 = .ok (.putfield 25, 3) := by decide +kernel
theorem dX3_begin_84 : decode cX3_begin 84 = .ok (.return_, 1) := by decide +kernel
theorem dX3_inchIn_0 : decode cX3_inchIn 0 = .ok (.iload_n 1, 1) := by decide +kernel
theorem dX3_inchIn_1 : decode cX3_inchIn 1 = .ok (.iconst 0, 1) := by decide +kernel
theorem dX3_inchIn_2 : decode cX3_inchIn 2 = .ok (.sipush 599, 3) := by decide +kernel
theorem dX3_inchIn_5 : decode cX3_inchIn 5 = .ok (.invokestatic 64, 3) := by decide +kernel
theorem dX3_inchIn_8 : decode cX3_inchIn 8 = .ok (.ifCond .ne 5, 3) := by decide +kernel
theorem dX3_inchIn_11 : decode cX3_inchIn 11 = .ok (.iconst 0, 1) := by decide +kernel
theorem dX3_inchIn_12 : decode cX3_inchIn 12 = .ok (.ireturn, 1) := by decide +kernel
theorem dX3_inchIn_13 : decode cX3_inchIn 13 = .ok (.aload_n 0, 1) := by decide +kernel
theorem dX3_inchIn_14 : decode cX3_inchIn 14 = .ok (.iload_n 1, 1) := by decide +kernel
theorem dX3_inchIn_15 : decode cX3_inchIn 15 = .ok (.iconst 1, 1) := by decide +kernel
theorem dX3_inchIn_16 : decode cX3_inchIn 16 = .ok (.iadd, 1) := by decide +kernel
theorem dX3_inchIn_17 : decode cX3_inchIn 17 = .ok (.invokevirtual 68, 3) := by decide +kernel
theorem dX3_inchIn_20 : decode cX3_inchIn 20 = .ok (.aload_n 0, 1) := by decide +kernel
theorem dX3_inchIn_21 : decode cX3_inchIn 21 = .ok (.getfield 18, 3) := by decide +kernel
theorem dX3_inchIn_24 : decode cX3_inchIn 24 = .ok (.iload_n 1, 1) := by decide +kernel
theorem dX3_inchIn_25 : decode cX3_inchIn 25 = .ok (.iaload, 1) := by decide +kernel
theorem dX3_inchIn_26 : decode cX3_inchIn 26 = .ok (.ireturn, 1) := by decide +kernel
theorem dX3_totalBehind_0 : decode cX3_totalBehind 0 = .ok (.iload_n 1, 1) := by decide +kernel
theorem dX3_totalBehind_1 : decode cX3_totalBehind 1 = .ok (.iconst 0, 1) := by decide +kernel
theorem dX3_totalBehind_2 : decode cX3_totalBehind 2 = .ok (.sipush 600, 3) := by decide +kernel
theorem dX3_totalBehind_5 : decode cX3_totalBehind 5 = .ok (.invokestatic 64, 3) := by decide +kernel
theorem dX3_totalBehind_8 : decode cX3_totalBehind 8 = .ok (.ifCond .ne 5, 3) := by decide +kernel
theorem dX3_totalBehind_11 : decode cX3_totalBehind 11 = .ok (.lconst 0, 1) := by decide +kernel
theorem dX3_totalBehind_12 : decode cX3_totalBehind 12 = .ok (.lreturn, 1) := by decide +kernel
theorem dX3_totalBehind_13 : decode cX3_totalBehind 13 = .ok (.aload_n 0, 1) := by decide +kernel
theorem dX3_totalBehind_14 : decode cX3_totalBehind 14 = .ok (.iload_n 1, 1) := by decide +kernel
theorem dX3_totalBehind_15 : decode cX3_totalBehind 15 = .ok (.invokevirtual 68, 3) := by decide +kernel
theorem dX3_totalBehind_18 : decode cX3_totalBehind 18 = .ok (.aload_n 0, 1) := by decide +kernel
theorem dX3_totalBehind_19 : decode cX3_totalBehind 19 = .ok (.getfield 22, 3) := by decide +kernel
theorem dX3_totalBehind_22 : decode cX3_totalBehind 22 = .ok (.iload_n 1, 1) := by decide +kernel
theorem dX3_totalBehind_23 : decode cX3_totalBehind 23 = .ok (.laload, 1) := by decide +kernel
theorem dX3_totalBehind_24 : decode cX3_totalBehind 24 = .ok (.lreturn, 1) := by decide +kernel
theorem dX3_firstStay_0 : decode cX3_firstStay 0 = .ok (.aload_n 0, 1) := by decide +kernel
theorem dX3_firstStay_1 : decode cX3_firstStay 1 = .ok (.iconst 0, 1) := by decide +kernel
theorem dX3_firstStay_2 : decode cX3_firstStay 2 = .ok (.invokevirtual 72, 3) := by decide +kernel
theorem dX3_firstStay_5 : decode cX3_firstStay 5 = .ok (.istore_n 1, 1) := by decide +kernel
theorem dX3_firstStay_6 : decode cX3_firstStay 6 = .ok (.iconst 1, 1) := by decide +kernel
theorem dX3_firstStay_7 : decode cX3_firstStay 7 = .ok (.istore_n 2, 1) := by decide +kernel
theorem dX3_firstStay_8 : decode cX3_firstStay 8 = .ok (.iload_n 2, 1) := by decide +kernel
theorem dX3_firstStay_9 : decode cX3_firstStay 9 = .ok (.sipush 600, 3) := by decide +kernel
theorem dX3_firstStay_12 : decode cX3_firstStay 12 = .ok (.if_icmp .ge 18, 3) := by decide +kernel
theorem dX3_firstStay_15 : decode cX3_firstStay 15 = .ok (.aload_n 0, 1) := by decide +kernel
theorem dX3_firstStay_16 : decode cX3_firstStay 16 = .ok (.iload_n 2, 1) := by decide +kernel
theorem dX3_firstStay_17 : decode cX3_firstStay 17 = .ok (.invokevirtual 72, 3) := by decide +kernel
theorem dX3_firstStay_20 : decode cX3_firstStay 20 = .ok (.iload_n 1, 1) := by decide +kernel
theorem dX3_firstStay_21 : decode cX3_firstStay 21 = .ok (.if_icmp .ne 9, 3) := by decide +kernel
theorem dX3_firstStay_24 : decode cX3_firstStay 24 = .ok (.iinc 2 1, 3) := by decide +kernel
theorem dX3_firstStay_27 : decode cX3_firstStay 27 = .ok (.goto (-19), 3) := by decide +kernel
theorem dX3_firstStay_30 : decode cX3_firstStay 30 = .ok (.iload_n 2, 1) := by decide +kernel
theorem dX3_firstStay_31 : decode cX3_firstStay 31 = .ok (.ireturn, 1) := by decide +kernel
theorem dX3_goOn_0 : decode cX3_goOn 0 = .ok (.aload_n 0, 1) := by decide +kernel
theorem dX3_goOn_1 : decode cX3_goOn 1 = .ok (.getfield 29, 3) := by decide +kernel
theorem dX3_goOn_4 : decode cX3_goOn 4 = .ok (.ifnonnull 4, 3) := by decide +kernel
theorem dX3_goOn_7 : decode cX3_goOn 7 = .ok (.return_, 1) := by decide +kernel
theorem dX3_goOn_8 : decode cX3_goOn 8 = .ok (.aload_n 0, 1) := by decide +kernel
theorem dX3_goOn_9 : decode cX3_goOn 9 = .ok (.getfield 60, 3) := by decide +kernel
theorem dX3_goOn_12 : decode cX3_goOn 12 = .ok (.istore_n 2, 1) := by decide +kernel
theorem dX3_goOn_13 : decode cX3_goOn 13 = .ok (.iload_n 2, 1) := by decide +kernel
theorem dX3_goOn_14 : decode cX3_goOn 14 = .ok (.iload_n 1, 1) := by decide +kernel
theorem dX3_goOn_15 : decode cX3_goOn 15 = .ok (.if_icmp .ge 58, 3) := by decide +kernel
theorem dX3_goOn_18 : decode cX3_goOn 18 = .ok (.iload_n 2, 1) := by decide +kernel
theorem dX3_goOn_19 : decode cX3_goOn 19 = .ok (.sipush 600, 3) := by decide +kernel
theorem dX3_goOn_22 : decode cX3_goOn 22 = .ok (.if_icmp .ge 51, 3) := by decide +kernel
theorem dX3_goOn_25 : decode cX3_goOn 25 = .ok (.aload_n 0, 1) := by decide +kernel
theorem dX3_goOn_26 : decode cX3_goOn 26 = .ok (.getfield 18, 3) := by decide +kernel
theorem dX3_goOn_29 : decode cX3_goOn 29 = .ok (.iload_n 2, 1) := by decide +kernel
theorem dX3_goOn_30 : decode cX3_goOn 30 = .ok (.aload_n 0, 1) := by decide +kernel
theorem dX3_goOn_31 : decode cX3_goOn 31 = .ok (.invokevirtual 76, 3) := by decide +kernel
theorem dX3_goOn_34 : decode cX3_goOn 34 = .ok (.iastore, 1) := by decide +kernel
theorem dX3_goOn_35 : decode cX3_goOn 35 = .ok (.aload_n 0, 1) := by decide +kernel
theorem dX3_goOn_36 : decode cX3_goOn 36 = .ok (.getfield 22, 3) := by decide +kernel
theorem dX3_goOn_39 : decode cX3_goOn 39 = .ok (.iload_n 2, 1) := by decide +kernel
theorem dX3_goOn_40 : decode cX3_goOn 40 = .ok (.iconst 1, 1) := by decide +kernel
theorem dX3_goOn_41 : decode cX3_goOn 41 = .ok (.iadd, 1) := by decide +kernel
theorem dX3_goOn_42 : decode cX3_goOn 42 = .ok (.aload_n 0, 1) := by decide +kernel
theorem dX3_goOn_43 : decode cX3_goOn 43 = .ok (.getfield 22, 3) := by decide +kernel
theorem dX3_goOn_46 : decode cX3_goOn 46 = .ok (.iload_n 2, 1) := by decide +kernel
theorem dX3_goOn_47 : decode cX3_goOn 47 = .ok (.laload, 1) := by decide +kernel
theorem dX3_goOn_48 : decode cX3_goOn 48 = .ok (.aload_n 0, 1) := by decide +kernel
theorem dX3_goOn_49 : decode cX3_goOn 49 = .ok (.aload_n 0, 1) := by decide +kernel
theorem dX3_goOn_50 : decode cX3_goOn 50 = .ok (.getfield 18, 3) := by decide +kernel
theorem dX3_goOn_53 : decode cX3_goOn 53 = .ok (.iload_n 2, 1) := by decide +kernel
theorem dX3_goOn_54 : decode cX3_goOn 54 = .ok (.iaload, 1) := by decide +kernel
theorem dX3_goOn_55 : decode cX3_goOn 55 = .ok (.invokevirtual 79, 3) := by decide +kernel
theorem dX3_goOn_58 : decode cX3_goOn 58 = .ok (.lsub, 1) := by decide +kernel
theorem dX3_goOn_59 : decode cX3_goOn 59 = .ok (.lastore, 1) := by decide +kernel
theorem dX3_goOn_60 : decode cX3_goOn 60 = .ok (.aload_n 0, 1) := by decide +kernel
theorem dX3_goOn_61 : decode cX3_goOn 61 = .ok (.iload_n 2, 1) := by decide +kernel
theorem dX3_goOn_62 : decode cX3_goOn 62 = .ok (.iconst 1, 1) := by decide +kernel
theorem dX3_goOn_63 : decode cX3_goOn 63 = .ok (.iadd, 1) := by decide +kernel
theorem dX3_goOn_64 : decode cX3_goOn 64 = .ok (.putfield 60, 3) := by decide +kernel
theorem dX3_goOn_67 : decode cX3_goOn 67 = .ok (.iinc 2 1, 3) := by decide +kernel
theorem dX3_goOn_70 : decode cX3_goOn 70 = .ok (.goto (-57), 3) := by decide +kernel
theorem dX3_goOn_73 : decode cX3_goOn 73 = .ok (.return_, 1) := by decide +kernel
theorem dX3_bestInch_0 : decode cX3_bestInch 0 = .ok (.aload_n 0, 1) := by decide +kernel
theorem dX3_bestInch_1 : decode cX3_bestInch 1 = .ok (.getfield 29, 3) := by decide +kernel
theorem dX3_bestInch_4 : decode cX3_bestInch 4 = .ok (.invokevirtual 45, 3) := by decide +kernel
theorem dX3_bestInch_7 : decode cX3_bestInch 7 = .ok (.istore_n 1, 1) := by decide +kernel
theorem dX3_bestInch_8 : decode cX3_bestInch 8 = .ok (.aload_n 0, 1) := by decide +kernel
theorem dX3_bestInch_9 : decode cX3_bestInch 9 = .ok (.getfield 29, 3) := by decide +kernel
theorem dX3_bestInch_12 : decode cX3_bestInch 12 = .ok (.invokevirtual 83, 3) := by decide +kernel
theorem dX3_bestInch_15 : decode cX3_bestInch 15 = .ok (.istore_n 2, 1) := by decide +kernel
theorem dX3_bestInch_16 : decode cX3_bestInch 16 = .ok (.lconst 0, 1) := by decide +kernel
theorem dX3_bestInch_17 : decode cX3_bestInch 17 = .ok (.lstore_n 3, 1) := by decide +kernel
theorem dX3_bestInch_18 : decode cX3_bestInch 18 = .ok (.iconst 0, 1) := by decide +kernel
theorem dX3_bestInch_19 : decode cX3_bestInch 19 = .ok (.istore 5, 2) := by decide +kernel
theorem dX3_bestInch_21 : decode cX3_bestInch 21 = .ok (.iload 5, 2) := by decide +kernel
theorem dX3_bestInch_23 : decode cX3_bestInch 23 = .ok (.iload_n 2, 1) := by decide +kernel
theorem dX3_bestInch_24 : decode cX3_bestInch 24 = .ok (.if_icmp .ge 19, 3) := by decide +kernel
theorem dX3_bestInch_27 : decode cX3_bestInch 27 = .ok (.lload_n 3, 1) := by decide +kernel
theorem dX3_bestInch_28 : decode cX3_bestInch 28 = .ok (.aload_n 0, 1) := by decide +kernel
theorem dX3_bestInch_29 : decode cX3_bestInch 29 = .ok (.getfield 15, 3) := by decide +kernel
theorem dX3_bestInch_32 : decode cX3_bestInch 32 = .ok (.iload 5, 2) := by decide +kernel
theorem dX3_bestInch_34 : decode cX3_bestInch 34 = .ok (.laload, 1) := by decide +kernel
theorem dX3_bestInch_35 : decode cX3_bestInch 35 = .ok (.ladd, 1) := by decide +kernel
theorem dX3_bestInch_36 : decode cX3_bestInch 36 = .ok (.lstore_n 3, 1) := by decide +kernel
theorem dX3_bestInch_37 : decode cX3_bestInch 37 = .ok (.iinc 5 1, 3) := by decide +kernel
theorem dX3_bestInch_40 : decode cX3_bestInch 40 = .ok (.goto (-19), 3) := by decide +kernel
theorem dX3_bestInch_43 : decode cX3_bestInch 43 = .ok (.iconst 0, 1) := by decide +kernel
theorem dX3_bestInch_44 : decode cX3_bestInch 44 = .ok (.istore 5, 2) := by decide +kernel
theorem dX3_bestInch_46 : decode cX3_bestInch 46 = .ok (.lload_n 3, 1) := by decide +kernel
theorem dX3_bestInch_47 : decode cX3_bestInch 47 = .ok (.lstore 6, 2) := by decide +kernel
theorem dX3_bestInch_49 : decode cX3_bestInch 49 = .ok (.iconst 1, 1) := by decide +kernel
theorem dX3_bestInch_50 : decode cX3_bestInch 50 = .ok (.istore 8, 2) := by decide +kernel
theorem dX3_bestInch_52 : decode cX3_bestInch 52 = .ok (.iload 8, 2) := by decide +kernel
theorem dX3_bestInch_54 : decode cX3_bestInch 54 = .ok (.iload_n 1, 1) := by decide +kernel
theorem dX3_bestInch_55 : decode cX3_bestInch 55 = .ok (.if_icmp .ge 64, 3) := by decide +kernel
theorem dX3_bestInch_58 : decode cX3_bestInch 58 = .ok (.iload 8, 2) := by decide +kernel
theorem dX3_bestInch_60 : decode cX3_bestInch 60 = .ok (.iload_n 2, 1) := by decide +kernel
theorem dX3_bestInch_61 : decode cX3_bestInch 61 = .ok (.iadd, 1) := by decide +kernel
theorem dX3_bestInch_62 : decode cX3_bestInch 62 = .ok (.iconst 1, 1) := by decide +kernel
theorem dX3_bestInch_63 : decode cX3_bestInch 63 = .ok (.isub, 1) := by decide +kernel
theorem dX3_bestInch_64 : decode cX3_bestInch 64 = .ok (.istore 9, 2) := by decide +kernel
theorem dX3_bestInch_66 : decode cX3_bestInch 66 = .ok (.lload_n 3, 1) := by decide +kernel
theorem dX3_bestInch_67 : decode cX3_bestInch 67 = .ok (.aload_n 0, 1) := by decide +kernel
theorem dX3_bestInch_68 : decode cX3_bestInch 68 = .ok (.getfield 15, 3) := by decide +kernel
theorem dX3_bestInch_71 : decode cX3_bestInch 71 = .ok (.iload 9, 2) := by decide +kernel
theorem dX3_bestInch_73 : decode cX3_bestInch 73 = .ok (.iload_n 1, 1) := by decide +kernel
theorem dX3_bestInch_74 : decode cX3_bestInch 74 = .ok (.if_icmp .ge 8, 3) := by decide +kernel
theorem dX3_bestInch_77 : decode cX3_bestInch 77 = .ok (.iload 9, 2) := by decide +kernel
theorem dX3_bestInch_79 : decode cX3_bestInch 79 = .ok (.goto 7, 3) := by decide +kernel
theorem dX3_bestInch_82 : decode cX3_bestInch 82 = .ok (.iload 9, 2) := by decide +kernel
theorem dX3_bestInch_84 : decode cX3_bestInch 84 = .ok (.iload_n 1, 1) := by decide +kernel
theorem dX3_bestInch_85 : decode cX3_bestInch 85 = .ok (.isub, 1) := by decide +kernel
theorem dX3_bestInch_86 : decode cX3_bestInch 86 = .ok (.laload, 1) := by decide +kernel
theorem dX3_bestInch_87 : decode cX3_bestInch 87 = .ok (.aload_n 0, 1) := by decide +kernel
theorem dX3_bestInch_88 : decode cX3_bestInch 88 = .ok (.getfield 15, 3) := by decide +kernel
theorem dX3_bestInch_91 : decode cX3_bestInch 91 = .ok (.iload 8, 2) := by decide +kernel
theorem dX3_bestInch_93 : decode cX3_bestInch 93 = .ok (.iconst 1, 1) := by decide +kernel
theorem dX3_bestInch_94 : decode cX3_bestInch 94 = .ok (.isub, 1) := by decide +kernel
theorem dX3_bestInch_95 : decode cX3_bestInch 95 = .ok (.laload, 1) := by decide +kernel
theorem dX3_bestInch_96 : decode cX3_bestInch 96 = .ok (.lsub, 1) := by decide +kernel
theorem dX3_bestInch_97 : decode cX3_bestInch 97 = .ok (.ladd, 1) := by decide +kernel
theorem dX3_bestInch_98 : decode cX3_bestInch 98 = .ok (.lstore_n 3, 1) := by decide +kernel
theorem dX3_bestInch_99 : decode cX3_bestInch 99 = .ok (.lload_n 3, 1) := by decide +kernel
theorem dX3_bestInch_100 : decode cX3_bestInch 100 = .ok (.lload 6, 2) := by decide +kernel
theorem dX3_bestInch_102 : decode cX3_bestInch 102 = .ok (.lcmp, 1) := by decide +kernel
theorem dX3_bestInch_103 : decode cX3_bestInch 103 = .ok (.ifCond .le 10, 3) := by decide +kernel
theorem dX3_bestInch_106 : decode cX3_bestInch 106 = .ok (.lload_n 3, 1) := by decide +kernel
theorem dX3_bestInch_107 : decode cX3_bestInch 107 = .ok (.lstore 6, 2) := by decide +kernel
theorem dX3_bestInch_109 : decode cX3_bestInch 109 = .ok (.iload 8, 2) := by decide +kernel
theorem dX3_bestInch_111 : decode cX3_bestInch 111 = .ok (.istore 5, 2) := by decide +kernel
theorem dX3_bestInch_113 : decode cX3_bestInch 113 = .ok (.iinc 8 1, 3) := by decide +kernel
theorem dX3_bestInch_116 : decode cX3_bestInch 116 = .ok (.goto (-64), 3) := by decide +kernel
theorem dX3_bestInch_119 : decode cX3_bestInch 119 = .ok (.iload 5, 2) := by decide +kernel
theorem dX3_bestInch_121 : decode cX3_bestInch 121 = .ok (.ireturn, 1) := by decide +kernel
theorem dX3_dipAt_0 : decode cX3_dipAt 0 = .ok (.lconst 0, 1) := by decide +kernel
theorem dX3_dipAt_1 : decode cX3_dipAt 1 = .ok (.lstore_n 2, 1) := by decide +kernel
theorem dX3_dipAt_2 : decode cX3_dipAt 2 = .ok (.iconst 0, 1) := by decide +kernel
theorem dX3_dipAt_3 : decode cX3_dipAt 3 = .ok (.istore 4, 2) := by decide +kernel
theorem dX3_dipAt_5 : decode cX3_dipAt 5 = .ok (.iload 4, 2) := by decide +kernel
theorem dX3_dipAt_7 : decode cX3_dipAt 7 = .ok (.aload_n 0, 1) := by decide +kernel
theorem dX3_dipAt_8 : decode cX3_dipAt 8 = .ok (.getfield 29, 3) := by decide +kernel
theorem dX3_dipAt_11 : decode cX3_dipAt 11 = .ok (.invokevirtual 83, 3) := by decide +kernel
theorem dX3_dipAt_14 : decode cX3_dipAt 14 = .ok (.if_icmp .ge 72, 3) := by decide +kernel
theorem dX3_dipAt_17 : decode cX3_dipAt 17 = .ok (.aload_n 0, 1) := by decide +kernel
theorem dX3_dipAt_18 : decode cX3_dipAt 18 = .ok (.getfield 29, 3) := by decide +kernel
theorem dX3_dipAt_21 : decode cX3_dipAt 21 = .ok (.iload_n 1, 1) := by decide +kernel
theorem dX3_dipAt_22 : decode cX3_dipAt 22 = .ok (.iload 4, 2) := by decide +kernel
theorem dX3_dipAt_24 : decode cX3_dipAt 24 = .ok (.iadd, 1) := by decide +kernel
theorem dX3_dipAt_25 : decode cX3_dipAt 25 = .ok (.invokevirtual 86, 3) := by decide +kernel
theorem dX3_dipAt_28 : decode cX3_dipAt 28 = .ok (.istore 5, 2) := by decide +kernel
theorem dX3_dipAt_30 : decode cX3_dipAt 30 = .ok (.aload_n 0, 1) := by decide +kernel
theorem dX3_dipAt_31 : decode cX3_dipAt 31 = .ok (.getfield 9, 3) := by decide +kernel
theorem dX3_dipAt_34 : decode cX3_dipAt 34 = .ok (.iload 5, 2) := by decide +kernel
theorem dX3_dipAt_36 : decode cX3_dipAt 36 = .ok (.aload_n 0, 1) := by decide +kernel
theorem dX3_dipAt_37 : decode cX3_dipAt 37 = .ok (.getfield 29, 3) := by decide +kernel
theorem dX3_dipAt_40 : decode cX3_dipAt 40 = .ok (.invokevirtual 89, 3) := by decide +kernel
theorem dX3_dipAt_43 : decode cX3_dipAt 43 = .ok (.iconst 1, 1) := by decide +kernel
theorem dX3_dipAt_44 : decode cX3_dipAt 44 = .ok (.invokestatic 92, 3) := by decide +kernel
theorem dX3_dipAt_47 : decode cX3_dipAt 47 = .ok (.aload_n 0, 1) := by decide +kernel
theorem dX3_dipAt_48 : decode cX3_dipAt 48 = .ok (.getfield 9, 3) := by decide +kernel
theorem dX3_dipAt_51 : decode cX3_dipAt 51 = .ok (.iload 5, 2) := by decide +kernel
theorem dX3_dipAt_53 : decode cX3_dipAt 53 = .ok (.invokestatic 50, 3) := by decide +kernel
theorem dX3_dipAt_56 : decode cX3_dipAt 56 = .ok (.lstore 6, 2) := by decide +kernel
theorem dX3_dipAt_58 : decode cX3_dipAt 58 = .ok (.lload_n 2, 1) := by decide +kernel
theorem dX3_dipAt_59 : decode cX3_dipAt 59 = .ok (.aload_n 0, 1) := by decide +kernel
theorem dX3_dipAt_60 : decode cX3_dipAt 60 = .ok (.getfield 15, 3) := by decide +kernel
theorem dX3_dipAt_63 : decode cX3_dipAt 63 = .ok (.iload 5, 2) := by decide +kernel
theorem dX3_dipAt_65 : decode cX3_dipAt 65 = .ok (.laload, 1) := by decide +kernel
theorem dX3_dipAt_66 : decode cX3_dipAt 66 = .ok (.lload 6, 2) := by decide +kernel
theorem dX3_dipAt_68 : decode cX3_dipAt 68 = .ok (.lsub, 1) := by decide +kernel
theorem dX3_dipAt_69 : decode cX3_dipAt 69 = .ok (.ladd, 1) := by decide +kernel
theorem dX3_dipAt_70 : decode cX3_dipAt 70 = .ok (.lstore_n 2, 1) := by decide +kernel
theorem dX3_dipAt_71 : decode cX3_dipAt 71 = .ok (.aload_n 0, 1) := by decide +kernel
theorem dX3_dipAt_72 : decode cX3_dipAt 72 = .ok (.getfield 15, 3) := by decide +kernel
theorem dX3_dipAt_75 : decode cX3_dipAt 75 = .ok (.iload 5, 2) := by decide +kernel
theorem dX3_dipAt_77 : decode cX3_dipAt 77 = .ok (.lload 6, 2) := by decide +kernel
theorem dX3_dipAt_79 : decode cX3_dipAt 79 = .ok (.lastore, 1) := by decide +kernel
theorem dX3_dipAt_80 : decode cX3_dipAt 80 = .ok (.iinc 4 1, 3) := by decide +kernel
theorem dX3_dipAt_83 : decode cX3_dipAt 83 = .ok (.goto (-78), 3) := by decide +kernel
theorem dX3_dipAt_86 : decode cX3_dipAt 86 = .ok (.lload_n 2, 1) := by decide +kernel
theorem dX3_dipAt_87 : decode cX3_dipAt 87 = .ok (.lreturn, 1) := by decide +kernel
theorem dX4_init_0 : decode cX4_init 0 = .ok (.aload_n 0, 1) := by decide +kernel
theorem dX4_init_1 : decode cX4_init 1 = .ok (.invokespecial 3, 3) := by decide +kernel
theorem dX4_init_4 : decode cX4_init 4 = .ok (.aload_n 0, 1) := by decide +kernel
theorem dX4_init_5 : decode cX4_init 5 = .ok (.sipush 700, 3) := by decide +kernel
theorem dX4_init_8 : decode cX4_init 8 = .ok (.newarray .int, 2) := by decide +kernel
theorem dX4_init_10 : decode cX4_init 10 = .ok (.putfield 9, 3) := by decide +kernel
theorem dX4_init_13 : decode cX4_init 13 = .ok (.aload_n 0, 1) := by decide +kernel
theorem dX4_init_14 : decode cX4_init 14 = .ok (.bipush 40, 2) := by decide +kernel
theorem dX4_init_16 : decode cX4_init 16 = .ok (.newarray .int, 2) := by decide +kernel
theorem dX4_init_18 : decode cX4_init 18 = .ok (.putfield 15, 3) := by decide +kernel
theorem dX4_init_21 : decode cX4_init 21 = .ok (.return_, 1) := by decide +kernel
theorem dX4_clear_0 : decode cX4_clear 0 = .ok (.aload_n 0, 1) := by decide +kernel
theorem dX4_clear_1 : decode cX4_clear 1 = .ok (.iconst 0, 1) := by decide +kernel
theorem dX4_clear_2 : decode cX4_clear 2 = .ok (.putfield 18, 3) := by decide +kernel
theorem dX4_clear_5 : decode cX4_clear 5 = .ok (.return_, 1) := by decide +kernel
theorem dX4_isTold_0 : decode cX4_isTold 0 = .ok (.aload_n 0, 1) := by decide +kernel
theorem dX4_isTold_1 : decode cX4_isTold 1 = .ok (.getfield 18, 3) := by decide +kernel
theorem dX4_isTold_4 : decode cX4_isTold 4 = .ok (.ifCond .le 7, 3) := by decide +kernel
theorem dX4_isTold_7 : decode cX4_isTold 7 = .ok (.iconst 1, 1) := by decide +kernel
theorem dX4_isTold_8 : decode cX4_isTold 8 = .ok (.goto 4, 3) := by decide +kernel
theorem dX4_isTold_11 : decode cX4_isTold 11 = .ok (.iconst 0, 1) := by decide +kernel
theorem dX4_isTold_12 : decode cX4_isTold 12 = .ok (.ireturn, 1) := by decide +kernel
theorem dX4_put_0 : decode cX4_put 0 = .ok (.aload_n 0, 1) := by decide +kernel
theorem dX4_put_1 : decode cX4_put 1 = .ok (.getfield 18, 3) := by decide +kernel
theorem dX4_put_4 : decode cX4_put 4 = .ok (.aload_n 0, 1) := by decide +kernel
theorem dX4_put_5 : decode cX4_put 5 = .ok (.getfield 9, 3) := by decide +kernel
theorem dX4_put_8 : decode cX4_put 8 = .ok (.arraylength, 1) := by decide +kernel
theorem dX4_put_9 : decode cX4_put 9 = .ok (.if_icmp .ge 23, 3) := by decide +kernel
theorem dX4_put_12 : decode cX4_put 12 = .ok (.aload_n 0, 1) := by decide +kernel
theorem dX4_put_13 : decode cX4_put 13 = .ok (.getfield 9, 3) := by decide +kernel
theorem dX4_put_16 : decode cX4_put 16 = .ok (.aload_n 0, 1) := by decide +kernel
theorem dX4_put_17 : decode cX4_put 17 = .ok (.getfield 18, 3) := by decide +kernel
theorem dX4_put_20 : decode cX4_put 20 = .ok (.iload_n 1, 1) := by decide +kernel
theorem dX4_put_21 : decode cX4_put 21 = .ok (.iastore, 1) := by decide +kernel
theorem dX4_put_22 : decode cX4_put 22 = .ok (.aload_n 0, 1) := by decide +kernel
theorem dX4_put_23 : decode cX4_put 23 = .ok (.dup, 1) := by decide +kernel
theorem dX4_put_24 : decode cX4_put 24 = .ok (.getfield 18, 3) := by decide +kernel
theorem dX4_put_27 : decode cX4_put 27 = .ok (.iconst 1, 1) := by decide +kernel
theorem dX4_put_28 : decode cX4_put 28 = .ok (.iadd, 1) := by decide +kernel
theorem dX4_put_29 : decode cX4_put 29 = .ok (.putfield 18, 3) := by decide +kernel
theorem dX4_put_32 : decode cX4_put 32 = .ok (.return_, 1) := by decide +kernel
theorem dX4_putValue_0 : decode cX4_putValue 0 = .ok (.aload_n 0, 1) := by decide +kernel
theorem dX4_putValue_1 : decode cX4_putValue 1 = .ok (.sipush 10000, 3) := by decide +kernel
theorem dX4_putValue_4 : decode cX4_putValue 4 = .ok (.iload_n 1, 1) := by decide +kernel
theorem dX4_putValue_5 : decode cX4_putValue 5 = .ok (.iadd, 1) := by decide +kernel
theorem dX4_putValue_6 : decode cX4_putValue 6 = .ok (.invokevirtual 22, 3) := by decide +kernel
theorem dX4_putValue_9 : decode cX4_putValue 9 = .ok (.return_, 1) := by decide +kernel
theorem dX4_asks_0 : decode cX4_asks 0 = .ok (.iconst 0, 1) := by decide +kernel
theorem dX4_asks_1 : decode cX4_asks 1 = .ok (.istore_n 2, 1) := by decide +kernel
theorem dX4_asks_2 : decode cX4_asks 2 = .ok (.iload_n 2, 1) := by decide +kernel
theorem dX4_asks_3 : decode cX4_asks 3 = .ok (.aload_n 0, 1) := by decide +kernel
theorem dX4_asks_4 : decode cX4_asks 4 = .ok (.getfield 18, 3) := by decide +kernel
theorem dX4_asks_7 : decode cX4_asks 7 = .ok (.if_icmp .ge 25, 3) := by decide +kernel
theorem dX4_asks_10 : decode cX4_asks 10 = .ok (.aload_n 0, 1) := by decide +kernel
theorem dX4_asks_11 : decode cX4_asks 11 = .ok (.getfield 9, 3) := by decide +kernel
theorem dX4_asks_14 : decode cX4_asks 14 = .ok (.iload_n 2, 1) := by decide +kernel
theorem dX4_asks_15 : decode cX4_asks 15 = .ok (.iaload, 1) := by decide +kernel
theorem dX4_asks_16 : decode cX4_asks 16 = .ok (.sipush 10000, 3) := by decide +kernel
theorem dX4_asks_19 : decode cX4_asks 19 = .ok (.iload_n 1, 1) := by decide +kernel
theorem dX4_asks_20 : decode cX4_asks 20 = .ok (.iadd, 1) := by decide +kernel
theorem dX4_asks_21 : decode cX4_asks 21 = .ok (.if_icmp .ne 5, 3) := by decide +kernel
theorem dX4_asks_24 : decode cX4_asks 24 = .ok (.iconst 1, 1) := by decide +kernel
theorem dX4_asks_25 : decode cX4_asks 25 = .ok (.ireturn, 1) := by decide +kernel
theorem dX4_asks_26 : decode cX4_asks 26 = .ok (.iinc 2 1, 3) := by decide +kernel
theorem dX4_asks_29 : decode cX4_asks 29 = .ok (.goto (-27), 3) := by decide +kernel
theorem dX4_asks_32 : decode cX4_asks 32 = .ok (.iconst 0, 1) := by decide +kernel
theorem dX4_asks_33 : decode cX4_asks 33 = .ok (.ireturn, 1) := by decide +kernel
theorem dX4_valueBy_0 : decode cX4_valueBy 0 = .ok (.iconst 0, 1) := by decide +kernel
theorem dX4_valueBy_1 : decode cX4_valueBy 1 = .ok (.istore_n 2, 1) := by decide +kernel
theorem dX4_valueBy_2 : decode cX4_valueBy 2 = .ok (.iconst 0, 1) := by decide +kernel
theorem dX4_valueBy_3 : decode cX4_valueBy 3 = .ok (.istore_n 3, 1) := by decide +kernel
theorem dX4_valueBy_4 : decode cX4_valueBy 4 = .ok (.iload_n 3, 1) := by decide +kernel
theorem dX4_valueBy_5 : decode cX4_valueBy 5 = .ok (.aload_n 0, 1) := by decide +kernel
theorem dX4_valueBy_6 : decode cX4_valueBy 6 = .ok (.getfield 18, 3) := by decide +kernel
theorem dX4_valueBy_9 : decode cX4_valueBy 9 = .ok (.if_icmp .ge 122, 3) := by decide +kernel
theorem dX4_valueBy_12 : decode cX4_valueBy 12 = .ok (.aload_n 0, 1) := by decide +kernel
theorem dX4_valueBy_13 : decode cX4_valueBy 13 = .ok (.getfield 9, 3) := by decide +kernel
theorem dX4_valueBy_16 : decode cX4_valueBy 16 = .ok (.iload_n 3, 1) := by decide +kernel
theorem dX4_valueBy_17 : decode cX4_valueBy 17 = .ok (.iaload, 1) := by decide +kernel
theorem dX4_valueBy_18 : decode cX4_valueBy 18 = .ok (.istore 4, 2) := by decide +kernel
theorem dX4_valueBy_20 : decode cX4_valueBy 20 = .ok (.iload 4, 2) := by decide +kernel
theorem dX4_valueBy_22 : decode cX4_valueBy 22 = .ok (.ifCond .lt 27, 3) := by decide +kernel
theorem dX4_valueBy_25 : decode cX4_valueBy 25 = .ok (.iload_n 2, 1) := by decide +kernel
theorem dX4_valueBy_26 : decode cX4_valueBy 26 = .ok (.bipush 40, 2) := by decide +kernel
theorem dX4_valueBy_28 : decode cX4_valueBy 28 = .ok (.if_icmp .ge 97, 3) := by decide +kernel
theorem dX4_valueBy_31 : decode cX4_valueBy 31 = .ok (.aload_n 0, 1) := by decide +kernel
theorem dX4_valueBy_32 : decode cX4_valueBy 32 = .ok (.getfield 15, 3) := by decide +kernel
theorem dX4_valueBy_35 : decode cX4_valueBy 35 = .ok (.iload_n 2, 1) := by decide +kernel
theorem dX4_valueBy_36 : decode cX4_valueBy 36 = .ok (.iload 4, 2) := by decide +kernel
theorem dX4_valueBy_38 : decode cX4_valueBy 38 = .ok (.aload_n 1, 1) := by decide +kernel
theorem dX4_valueBy_39 : decode cX4_valueBy 39 = .ok (.invokestatic 26, 3) := by decide +kernel
theorem dX4_valueBy_42 : decode cX4_valueBy 42 = .ok (.iastore, 1) := by decide +kernel
theorem dX4_valueBy_43 : decode cX4_valueBy 43 = .ok (.iinc 2 1, 3) := by decide +kernel
theorem dX4_valueBy_46 : decode cX4_valueBy 46 = .ok (.goto 79, 3) := by decide +kernel
theorem dX4_valueBy_49 : decode cX4_valueBy 49 = .ok (.iload 4, 2) := by decide +kernel
theorem dX4_valueBy_51 : decode cX4_valueBy 51 = .ok (.bipush (-3), 2) := by decide +kernel
theorem dX4_valueBy_53 : decode cX4_valueBy 53 = .ok (.if_icmp .ne 37, 3) := by decide +kernel
theorem dX4_valueBy_56 : decode cX4_valueBy 56 = .ok (.iload_n 2, 1) := by decide +kernel
theorem dX4_valueBy_57 : decode cX4_valueBy 57 = .ok (.ifCond .le 68, 3) := by decide +kernel
theorem dX4_valueBy_60 : decode cX4_valueBy 60 = .ok (.aload_n 0, 1) := by decide +kernel
theorem dX4_valueBy_61 : decode cX4_valueBy 61 = .ok (.getfield 15, 3) := by decide +kernel
theorem dX4_valueBy_64 : decode cX4_valueBy 64 = .ok (.iload_n 2, 1) := by decide +kernel
theorem dX4_valueBy_65 : decode cX4_valueBy 65 = .ok (.iconst 1, 1) := by decide +kernel
theorem dX4_valueBy_66 : decode cX4_valueBy 66 = .ok (.isub, 1) := by decide +kernel
theorem dX4_valueBy_67 : decode cX4_valueBy 67 = .ok (.aload_n 0, 1) := by decide +kernel
theorem dX4_valueBy_68 : decode cX4_valueBy 68 = .ok (.getfield 15, 3) := by decide +kernel
theorem dX4_valueBy_71 : decode cX4_valueBy 71 = .ok (.iload_n 2, 1) := by decide +kernel
theorem dX4_valueBy_72 : decode cX4_valueBy 72 = .ok (.iconst 1, 1) := by decide +kernel
theorem dX4_valueBy_73 : decode cX4_valueBy 73 = .ok (.isub, 1) := by decide +kernel
theorem dX4_valueBy_74 : decode cX4_valueBy 74 = .ok (.iaload, 1) := by decide +kernel
theorem dX4_valueBy_75 : decode cX4_valueBy 75 = .ok (.ifCond .ne 7, 3) := by decide +kernel
theorem dX4_valueBy_78 : decode cX4_valueBy 78 = .ok (.iconst 1, 1) := by decide +kernel
theorem dX4_valueBy_79 : decode cX4_valueBy 79 = .ok (.goto 4, 3) := by decide +kernel
theorem dX4_valueBy_82 : decode cX4_valueBy 82 = .ok (.iconst 0, 1) := by decide +kernel
theorem dX4_valueBy_83 : decode cX4_valueBy 83 = .ok (.invokestatic 30, 3) := by decide +kernel
theorem dX4_valueBy_86 : decode cX4_valueBy 86 = .ok (.iastore, 1) := by decide +kernel
theorem dX4_valueBy_87 : decode cX4_valueBy 87 = .ok (.goto 38, 3) := by decide +kernel
theorem dX4_valueBy_90 : decode cX4_valueBy 90 = .ok (.iload_n 2, 1) := by decide +kernel
theorem dX4_valueBy_91 : decode cX4_valueBy 91 = .ok (.iconst 1, 1) := by decide +kernel
theorem dX4_valueBy_92 : decode cX4_valueBy 92 = .ok (.if_icmp .le 33, 3) := by decide +kernel
theorem dX4_valueBy_95 : decode cX4_valueBy 95 = .ok (.iinc 2 (-1), 3) := by decide +kernel
theorem dX4_valueBy_98 : decode cX4_valueBy 98 = .ok (.aload_n 0, 1) := by decide +kernel
theorem dX4_valueBy_99 : decode cX4_valueBy 99 = .ok (.getfield 15, 3) := by decide +kernel
theorem dX4_valueBy_102 : decode cX4_valueBy 102 = .ok (.iload_n 2, 1) := by decide +kernel
theorem dX4_valueBy_103 : decode cX4_valueBy 103 = .ok (.iconst 1, 1) := by decide +kernel
theorem dX4_valueBy_104 : decode cX4_valueBy 104 = .ok (.isub, 1) := by decide +kernel
theorem dX4_valueBy_105 : decode cX4_valueBy 105 = .ok (.iload 4, 2) := by decide +kernel
theorem dX4_valueBy_107 : decode cX4_valueBy 107 = .ok (.aload_n 0, 1) := by decide +kernel
theorem dX4_valueBy_108 : decode cX4_valueBy 108 = .ok (.getfield 15, 3) := by decide +kernel
theorem dX4_valueBy_111 : decode cX4_valueBy 111 = .ok (.iload_n 2, 1) := by decide +kernel
theorem dX4_valueBy_112 : decode cX4_valueBy 112 = .ok (.iconst 1, 1) := by decide +kernel
theorem dX4_valueBy_113 : decode cX4_valueBy 113 = .ok (.isub, 1) := by decide +kernel
theorem dX4_valueBy_114 : decode cX4_valueBy 114 = .ok (.iaload, 1) := by decide +kernel
theorem dX4_valueBy_115 : decode cX4_valueBy 115 = .ok (.aload_n 0, 1) := by decide +kernel
theorem dX4_valueBy_116 : decode cX4_valueBy 116 = .ok (.getfield 15, 3) := by decide +kernel
theorem dX4_valueBy_119 : decode cX4_valueBy 119 = .ok (.iload_n 2, 1) := by decide +kernel
theorem dX4_valueBy_120 : decode cX4_valueBy 120 = .ok (.iaload, 1) := by decide +kernel
theorem dX4_valueBy_121 : decode cX4_valueBy 121 = .ok (.invokestatic 34, 3) := by decide +kernel
theorem dX4_valueBy_124 : decode cX4_valueBy 124 = .ok (.iastore, 1) := by decide +kernel
theorem dX4_valueBy_125 : decode cX4_valueBy 125 = .ok (.iinc 3 1, 3) := by decide +kernel
theorem dX4_valueBy_128 : decode cX4_valueBy 128 = .ok (.goto (-124), 3) := by decide +kernel
theorem dX4_valueBy_131 : decode cX4_valueBy 131 = .ok (.iload_n 2, 1) := by decide +kernel
theorem dX4_valueBy_132 : decode cX4_valueBy 132 = .ok (.ifCond .le 12, 3) := by decide +kernel
theorem dX4_valueBy_135 : decode cX4_valueBy 135 = .ok (.aload_n 0, 1) := by decide +kernel
theorem dX4_valueBy_136 : decode cX4_valueBy 136 = .ok (.getfield 15, 3) := by decide +kernel
theorem dX4_valueBy_139 : decode cX4_valueBy 139 = .ok (.iconst 0, 1) := by decide +kernel
theorem dX4_valueBy_140 : decode cX4_valueBy 140 = .ok (.iaload, 1) := by decide +kernel
theorem dX4_valueBy_141 : decode cX4_valueBy 141 = .ok (.goto 4, 3) := by decide +kernel
theorem dX4_valueBy_144 : decode cX4_valueBy 144 = .ok (.iconst 0, 1) := by decide +kernel
theorem dX4_valueBy_145 : decode cX4_valueBy 145 = .ok (.ireturn, 1) := by decide +kernel
theorem dX4_numberOf_0 : decode cX4_numberOf 0 = .ok (.iload_n 0, 1) := by decide +kernel
theorem dX4_numberOf_1 : decode cX4_numberOf 1 = .ok (.sipush 10000, 3) := by decide +kernel
theorem dX4_numberOf_4 : decode cX4_numberOf 4 = .ok (.if_icmp .ge 5, 3) := by decide +kernel
theorem dX4_numberOf_7 : decode cX4_numberOf 7 = .ok (.iload_n 0, 1) := by decide +kernel
theorem dX4_numberOf_8 : decode cX4_numberOf 8 = .ok (.ireturn, 1) := by decide +kernel
theorem dX4_numberOf_9 : decode cX4_numberOf 9 = .ok (.iload_n 0, 1) := by decide +kernel
theorem dX4_numberOf_10 : decode cX4_numberOf 10 = .ok (.sipush 10000, 3) := by decide +kernel
theorem dX4_numberOf_13 : decode cX4_numberOf 13 = .ok (.isub, 1) := by decide +kernel
theorem dX4_numberOf_14 : decode cX4_numberOf 14 = .ok (.istore_n 2, 1) := by decide +kernel
theorem dX4_numberOf_15 : decode cX4_numberOf 15 = .ok (.iload_n 2, 1) := by decide +kernel
theorem dX4_numberOf_16 : decode cX4_numberOf 16 = .ok (.aload_n 1, 1) := by decide +kernel
theorem dX4_numberOf_17 : decode cX4_numberOf 17 = .ok (.arraylength, 1) := by decide +kernel
theorem dX4_numberOf_18 : decode cX4_numberOf 18 = .ok (.if_icmp .ge 9, 3) := by decide +kernel
theorem dX4_numberOf_21 : decode cX4_numberOf 21 = .ok (.aload_n 1, 1) := by decide +kernel
theorem dX4_numberOf_22 : decode cX4_numberOf 22 = .ok (.iload_n 2, 1) := by decide +kernel
theorem dX4_numberOf_23 : decode cX4_numberOf 23 = .ok (.iaload, 1) := by decide +kernel
theorem dX4_numberOf_24 : decode cX4_numberOf 24 = .ok (.goto 4, 3) := by decide +kernel
theorem dX4_numberOf_27 : decode cX4_numberOf 27 = .ok (.iconst 0, 1) := by decide +kernel
theorem dX4_numberOf_28 : decode cX4_numberOf 28 = .ok (.ireturn, 1) := by decide +kernel
theorem dX4_joined_0 : decode cX4_joined 0 = .ok (.iload_n 0, 1) := by decide +kernel
theorem dX4_joined_1 : decode cX4_joined 1 = .ok (.tableswitch 121 (-8) (-1) #[117, 113, 109, 95, 81, 121, 64, 47], 47) := by decide +kernel
theorem dX4_joined_48 : decode cX4_joined 48 = .ok (.iload_n 1, 1) := by decide +kernel
theorem dX4_joined_49 : decode cX4_joined 49 = .ok (.ifCond .ne 7, 3) := by decide +kernel
theorem dX4_joined_52 : decode cX4_joined 52 = .ok (.iload_n 2, 1) := by decide +kernel
theorem dX4_joined_53 : decode cX4_joined 53 = .ok (.ifCond .eq 7, 3) := by decide +kernel
theorem dX4_joined_56 : decode cX4_joined 56 = .ok (.iconst 1, 1) := by decide +kernel
theorem dX4_joined_57 : decode cX4_joined 57 = .ok (.goto 4, 3) := by decide +kernel
theorem dX4_joined_60 : decode cX4_joined 60 = .ok (.iconst 0, 1) := by decide +kernel
theorem dX4_joined_61 : decode cX4_joined 61 = .ok (.invokestatic 30, 3) := by decide +kernel
theorem dX4_joined_64 : decode cX4_joined 64 = .ok (.ireturn, 1) := by decide +kernel
theorem dX4_joined_65 : decode cX4_joined 65 = .ok (.iload_n 1, 1) := by decide +kernel
theorem dX4_joined_66 : decode cX4_joined 66 = .ok (.ifCond .eq 11, 3) := by decide +kernel
theorem dX4_joined_69 : decode cX4_joined 69 = .ok (.iload_n 2, 1) := by decide +kernel
theorem dX4_joined_70 : decode cX4_joined 70 = .ok (.ifCond .eq 7, 3) := by decide +kernel
theorem dX4_joined_73 : decode cX4_joined 73 = .ok (.iconst 1, 1) := by decide +kernel
theorem dX4_joined_74 : decode cX4_joined 74 = .ok (.goto 4, 3) := by decide +kernel
theorem dX4_joined_77 : decode cX4_joined 77 = .ok (.iconst 0, 1) := by decide +kernel
theorem dX4_joined_78 : decode cX4_joined 78 = .ok (.invokestatic 30, 3) := by decide +kernel
theorem dX4_joined_81 : decode cX4_joined 81 = .ok (.ireturn, 1) := by decide +kernel
theorem dX4_joined_82 : decode cX4_joined 82 = .ok (.iload_n 1, 1) := by decide +kernel
theorem dX4_joined_83 : decode cX4_joined 83 = .ok (.iload_n 2, 1) := by decide +kernel
theorem dX4_joined_84 : decode cX4_joined 84 = .ok (.if_icmp .ge 7, 3) := by decide +kernel
theorem dX4_joined_87 : decode cX4_joined 87 = .ok (.iconst 1, 1) := by decide +kernel
theorem dX4_joined_88 : decode cX4_joined 88 = .ok (.goto 4, 3) := by decide +kernel
theorem dX4_joined_91 : decode cX4_joined 91 = .ok (.iconst 0, 1) := by decide +kernel
theorem dX4_joined_92 : decode cX4_joined 92 = .ok (.invokestatic 30, 3) := by decide +kernel
theorem dX4_joined_95 : decode cX4_joined 95 = .ok (.ireturn, 1) := by decide +kernel
theorem dX4_joined_96 : decode cX4_joined 96 = .ok (.iload_n 1, 1) := by decide +kernel
theorem dX4_joined_97 : decode cX4_joined 97 = .ok (.iload_n 2, 1) := by decide +kernel
theorem dX4_joined_98 : decode cX4_joined 98 = .ok (.if_icmp .ne 7, 3) := by decide +kernel
theorem dX4_joined_101 : decode cX4_joined 101 = .ok (.iconst 1, 1) := by decide +kernel
theorem dX4_joined_102 : decode cX4_joined 102 = .ok (.goto 4, 3) := by decide +kernel
theorem dX4_joined_105 : decode cX4_joined 105 = .ok (.iconst 0, 1) := by decide +kernel
theorem dX4_joined_106 : decode cX4_joined 106 = .ok (.invokestatic 30, 3) := by decide +kernel
theorem dX4_joined_109 : decode cX4_joined 109 = .ok (.ireturn, 1) := by decide +kernel
theorem dX4_joined_110 : decode cX4_joined 110 = .ok (.iload_n 1, 1) := by decide +kernel
theorem dX4_joined_111 : decode cX4_joined 111 = .ok (.iload_n 2, 1) := by decide +kernel
theorem dX4_joined_112 : decode cX4_joined 112 = .ok (.iadd, 1) := by decide +kernel
theorem dX4_joined_113 : decode cX4_joined 113 = .ok (.ireturn, 1) := by decide +kernel
theorem dX4_joined_114 : decode cX4_joined 114 = .ok (.iload_n 1, 1) := by decide +kernel
theorem dX4_joined_115 : decode cX4_joined 115 = .ok (.iload_n 2, 1) := by decide +kernel
theorem dX4_joined_116 : decode cX4_joined 116 = .ok (.isub, 1) := by decide +kernel
theorem dX4_joined_117 : decode cX4_joined 117 = .ok (.ireturn, 1) := by decide +kernel
theorem dX4_joined_118 : decode cX4_joined 118 = .ok (.iload_n 1, 1) := by decide +kernel
theorem dX4_joined_119 : decode cX4_joined 119 = .ok (.iload_n 2, 1) := by decide +kernel
theorem dX4_joined_120 : decode cX4_joined 120 = .ok (.imul, 1) := by decide +kernel
theorem dX4_joined_121 : decode cX4_joined 121 = .ok (.ireturn, 1) := by decide +kernel
theorem dX4_joined_122 : decode cX4_joined 122 = .ok (.iload_n 2, 1) := by decide +kernel
theorem dX4_joined_123 : decode cX4_joined 123 = .ok (.ifCond .ne 7, 3) := by decide +kernel
theorem dX4_joined_126 : decode cX4_joined 126 = .ok (.iconst 0, 1) := by decide +kernel
theorem dX4_joined_127 : decode cX4_joined 127 = .ok (.goto 6, 3) := by decide +kernel
theorem dX4_joined_130 : decode cX4_joined 130 = .ok (.iload_n 1, 1) := by decide +kernel
theorem dX4_joined_131 : decode cX4_joined 131 = .ok (.iload_n 2, 1) := by decide +kernel
theorem dX4_joined_132 : decode cX4_joined 132 = .ok (.idiv, 1) := by decide +kernel
theorem dX4_joined_133 : decode cX4_joined 133 = .ok (.ireturn, 1) := by decide +kernel
theorem dX4_oneIf_0 : decode cX4_oneIf 0 = .ok (.iload_n 0, 1) := by decide +kernel
theorem dX4_oneIf_1 : decode cX4_oneIf 1 = .ok (.ifCond .eq 7, 3) := by decide +kernel
theorem dX4_oneIf_4 : decode cX4_oneIf 4 = .ok (.iconst 1, 1) := by decide +kernel
theorem dX4_oneIf_5 : decode cX4_oneIf 5 = .ok (.goto 4, 3) := by decide +kernel
theorem dX4_oneIf_8 : decode cX4_oneIf 8 = .ok (.iconst 0, 1) := by decide +kernel
theorem dX4_oneIf_9 : decode cX4_oneIf 9 = .ok (.ireturn, 1) := by decide +kernel
theorem dX5_init_0 : decode cX5_init 0 = .ok (.aload_n 0, 1) := by decide +kernel
theorem dX5_init_1 : decode cX5_init 1 = .ok (.invokespecial 3, 3) := by decide +kernel
theorem dX5_init_4 : decode cX5_init 4 = .ok (.aload_n 0, 1) := by decide +kernel
theorem dX5_init_5 : decode cX5_init 5 = .ok (.bipush 8, 2) := by decide +kernel
theorem dX5_init_7 : decode cX5_init 7 = .ok (.newarray .int, 2) := by decide +kernel
theorem dX5_init_9 : decode cX5_init 9 = .ok (.putfield 9, 3) := by decide +kernel
theorem dX5_init_12 : decode cX5_init 12 = .ok (.aload_n 0, 1) := by decide +kernel
theorem dX5_init_13 : decode cX5_init 13 = .ok (.iconst 4, 1) := by decide +kernel
theorem dX5_init_14 : decode cX5_init 14 = .ok (.newarray .int, 2) := by decide +kernel
theorem dX5_init_16 : decode cX5_init 16 = .ok (.putfield 15, 3) := by decide +kernel
theorem dX5_init_19 : decode cX5_init 19 = .ok (.aload_n 0, 1) := by decide +kernel
theorem dX5_init_20 : decode cX5_init 20 = .ok (.new 18, 3) := by decide +kernel
theorem dX5_init_23 : decode cX5_init 23 = .ok (.dup, 1) := by decide +kernel
theorem dX5_init_24 : decode cX5_init 24 = .ok (.invokespecial 20, 3) := by decide +kernel
theorem dX5_init_27 : decode cX5_init 27 = .ok (.putfield 21, 3) := by decide +kernel
theorem dX5_init_30 : decode cX5_init 30 = .ok (.aload_n 0, 1) := by decide +kernel
theorem dX5_init_31 : decode cX5_init 31 = .ok (.new 25, 3) := by decide +kernel
theorem dX5_init_34 : decode cX5_init 34 = .ok (.dup, 1) := by decide +kernel
theorem dX5_init_35 : decode cX5_init 35 = .ok (.invokespecial 27, 3) := by decide +kernel
theorem dX5_init_38 : decode cX5_init 38 = .ok (.putfield 28, 3) := by decide +kernel
theorem dX5_init_41 : decode cX5_init 41 = .ok (.aload_n 0, 1) := by decide +kernel
theorem dX5_init_42 : decode cX5_init 42 = .ok (.new 32, 3) := by decide +kernel
theorem dX5_init_45 : decode cX5_init 45 = .ok (.dup, 1) := by decide +kernel
theorem dX5_init_46 : decode cX5_init 46 = .ok (.invokespecial 34, 3) := by decide +kernel
theorem dX5_init_49 : decode cX5_init 49 = .ok (.putfield 35, 3) := by decide +kernel
theorem dX5_init_52 : decode cX5_init 52 = .ok (.aload_n 0, 1) := by decide +kernel
theorem dX5_init_53 : decode cX5_init 53 = .ok (.new 39, 3) := by decide +kernel
theorem dX5_init_56 : decode cX5_init 56 = .ok (.dup, 1) := by decide +kernel
theorem dX5_init_57 : decode cX5_init 57 = .ok (.invokespecial 41, 3) := by decide +kernel
theorem dX5_init_60 : decode cX5_init 60 = .ok (.putfield 42, 3) := by decide +kernel
theorem dX5_init_63 : decode cX5_init 63 = .ok (.aload_n 0, 1) := by decide +kernel
theorem dX5_init_64 : decode cX5_init 64 = .ok (.new 39, 3) := by decide +kernel
theorem dX5_init_67 : decode cX5_init 67 = .ok (.dup, 1) := by decide +kernel
theorem dX5_init_68 : decode cX5_init 68 = .ok (.invokespecial 41, 3) := by decide +kernel
theorem dX5_init_71 : decode cX5_init 71 = .ok (.putfield 46, 3) := by decide +kernel
theorem dX5_init_74 : decode cX5_init 74 = .ok (.aload_n 0, 1) := by decide +kernel
theorem dX5_init_75 : decode cX5_init 75 = .ok (.bipush 6, 2) := by decide +kernel
theorem dX5_init_77 : decode cX5_init 77 = .ok (.newarray .int, 2) := by decide +kernel
theorem dX5_init_79 : decode cX5_init 79 = .ok (.putfield 49, 3) := by decide +kernel
theorem dX5_init_82 : decode cX5_init 82 = .ok (.aload_n 0, 1) := by decide +kernel
theorem dX5_init_83 : decode cX5_init 83 = .ok (.invokevirtual 52, 3) := by decide +kernel
theorem dX5_init_86 : decode cX5_init 86 = .ok (.return_, 1) := by decide +kernel
theorem dX5_clear_0 : decode cX5_clear 0 = .ok (.aload_n 0, 1) := by decide +kernel
theorem dX5_clear_1 : decode cX5_clear 1 = .ok (.getfield 9, 3) := by decide +kernel
theorem dX5_clear_4 : decode cX5_clear 4 = .ok (.iconst 0, 1) := by decide +kernel
theorem dX5_clear_5 : decode cX5_clear 5 = .ok (.bipush 48, 2) := by decide +kernel
theorem dX5_clear_7 : decode cX5_clear 7 = .ok (.iastore, 1) := by decide +kernel
theorem dX5_clear_8 : decode cX5_clear 8 = .ok (.aload_n 0, 1) := by decide +kernel
theorem dX5_clear_9 : decode cX5_clear 9 = .ok (.getfield 9, 3) := by decide +kernel
theorem dX5_clear_12 : decode cX5_clear 12 = .ok (.iconst 1, 1) := by decide +kernel
theorem dX5_clear_13 : decode cX5_clear 13 = .ok (.iconst 3, 1) := by decide +kernel
theorem dX5_clear_14 : decode cX5_clear 14 = .ok (.iastore, 1) := by decide +kernel
theorem dX5_clear_15 : decode cX5_clear 15 = .ok (.aload_n 0, 1) := by decide +kernel
theorem dX5_clear_16 : decode cX5_clear 16 = .ok (.getfield 9, 3) := by decide +kernel
theorem dX5_clear_19 : decode cX5_clear 19 = .ok (.iconst 2, 1) := by decide +kernel
theorem dX5_clear_20 : decode cX5_clear 20 = .ok (.bipush 60, 2) := by decide +kernel
theorem dX5_clear_22 : decode cX5_clear 22 = .ok (.iastore, 1) := by decide +kernel
theorem dX5_clear_23 : decode cX5_clear 23 = .ok (.aload_n 0, 1) := by decide +kernel
theorem dX5_clear_24 : decode cX5_clear 24 = .ok (.getfield 9, 3) := by decide +kernel
theorem dX5_clear_27 : decode cX5_clear 27 = .ok (.iconst 3, 1) := by decide +kernel
theorem dX5_clear_28 : decode cX5_clear 28 = .ok (.bipush 90, 2) := by decide +kernel
theorem dX5_clear_30 : decode cX5_clear 30 = .ok (.iastore, 1) := by decide +kernel
theorem dX5_clear_31 : decode cX5_clear 31 = .ok (.aload_n 0, 1) := by decide +kernel
theorem dX5_clear_32 : decode cX5_clear 32 = .ok (.getfield 9, 3) := by decide +kernel
theorem dX5_clear_35 : decode cX5_clear 35 = .ok (.iconst 4, 1) := by decide +kernel
theorem dX5_clear_36 : decode cX5_clear 36 = .ok (.bipush 60, 2) := by decide +kernel
theorem dX5_clear_38 : decode cX5_clear 38 = .ok (.iastore, 1) := by decide +kernel
theorem dX5_clear_39 : decode cX5_clear 39 = .ok (.aload_n 0, 1) := by decide +kernel
theorem dX5_clear_40 : decode cX5_clear 40 = .ok (.getfield 9, 3) := by decide +kernel
theorem dX5_clear_43 : decode cX5_clear 43 = .ok (.iconst 5, 1) := by decide +kernel
theorem dX5_clear_44 : decode cX5_clear 44 = .ok (.iconst 0, 1) := by decide +kernel
theorem dX5_clear_45 : decode cX5_clear 45 = .ok (.iastore, 1) := by decide +kernel
theorem dX5_clear_46 : decode cX5_clear 46 = .ok (.aload_n 0, 1) := by decide +kernel
theorem dX5_clear_47 : decode cX5_clear 47 = .ok (.getfield 9, 3) := by decide +kernel
theorem dX5_clear_50 : decode cX5_clear 50 = .ok (.bipush 6, 2) := by decide +kernel
theorem dX5_clear_52 : decode cX5_clear 52 = .ok (.bipush 30, 2) := by decide +kernel
theorem dX5_clear_54 : decode cX5_clear 54 = .ok (.iastore, 1) := by decide +kernel
theorem dX5_clear_55 : decode cX5_clear 55 = .ok (.aload_n 0, 1) := by decide +kernel
theorem dX5_clear_56 : decode cX5_clear 56 = .ok (.getfield 9, 3) := by decide +kernel
theorem dX5_clear_59 : decode cX5_clear 59 = .ok (.bipush 7, 2) := by decide +kernel
theorem dX5_clear_61 : decode cX5_clear 61 = .ok (.bipush 50, 2) := by decide +kernel
theorem dX5_clear_63 : decode cX5_clear 63 = .ok (.iastore, 1) := by decide +kernel
theorem dX5_clear_64 : decode cX5_clear 64 = .ok (.aload_n 0, 1) := by decide +kernel
theorem dX5_clear_65 : decode cX5_clear 65 = .ok (.getfield 15, 3) := by decide +kernel
theorem dX5_clear_68 : decode cX5_clear 68 = .ok (.iconst 0, 1) := by decide +kernel
theorem dX5_clear_69 : decode cX5_clear 69 = .ok (.iconst 5, 1) := by decide +kernel
theorem dX5_clear_70 : decode cX5_clear 70 = .ok (.iastore, 1) := by decide +kernel
theorem dX5_clear_71 : decode cX5_clear 71 = .ok (.aload_n 0, 1) := by decide +kernel
theorem dX5_clear_72 : decode cX5_clear 72 = .ok (.getfield 15, 3) := by decide +kernel
theorem dX5_clear_75 : decode cX5_clear 75 = .ok (.iconst 1, 1) := by decide +kernel
theorem dX5_clear_76 : decode cX5_clear 76 = .ok (.iconst 2, 1) := by decide +kernel
theorem dX5_clear_77 : decode cX5_clear 77 = .ok (.iastore, 1) := by decide +kernel
theorem dX5_clear_78 : decode cX5_clear 78 = .ok (.aload_n 0, 1) := by decide +kernel
theorem dX5_clear_79 : decode cX5_clear 79 = .ok (.getfield 15, 3) := by decide +kernel
theorem dX5_clear_82 : decode cX5_clear 82 = .ok (.iconst 2, 1) := by decide +kernel
theorem dX5_clear_83 : decode cX5_clear 83 = .ok (.iconst 1, 1) := by decide +kernel
theorem dX5_clear_84 : decode cX5_clear 84 = .ok (.iastore, 1) := by decide +kernel
theorem dX5_clear_85 : decode cX5_clear 85 = .ok (.aload_n 0, 1) := by decide +kernel
theorem dX5_clear_86 : decode cX5_clear 86 = .ok (.getfield 15, 3) := by decide +kernel
theorem dX5_clear_89 : decode cX5_clear 89 = .ok (.iconst 3, 1) := by decide +kernel
theorem dX5_clear_90 : decode cX5_clear 90 = .ok (.iconst 1, 1) := by decide +kernel
theorem dX5_clear_91 : decode cX5_clear 91 = .ok (.iastore, 1) := by decide +kernel
theorem dX5_clear_92 : decode cX5_clear 92 = .ok (.aload_n 0, 1) := by decide +kernel
theorem dX5_clear_93 : decode cX5_clear 93 = .ok (.getfield 21, 3) := by decide +kernel
theorem dX5_clear_96 : decode cX5_clear 96 = .ok (.iconst 0, 1) := by decide +kernel
theorem dX5_clear_97 : decode cX5_clear 97 = .ok (.putfield 55, 3) := by decide +kernel
theorem dX5_clear_100 : decode cX5_clear 100 = .ok (.aload_n 0, 1) := by decide +kernel
theorem dX5_clear_101 : decode cX5_clear 101 = .ok (.getfield 28, 3) := by decide +kernel
theorem dX5_clear_104 : decode cX5_clear 104 = .ok (.iconst 0, 1) := by decide +kernel
theorem dX5_clear_105 : decode cX5_clear 105 = .ok (.putfield 59, 3) := by decide +kernel
theorem dX5_clear_108 : decode cX5_clear 108 = .ok (.aload_n 0, 1) := by decide +kernel
theorem dX5_clear_109 : decode cX5_clear 109 = .ok (.getfield 35, 3) := by decide +kernel
theorem dX5_clear_112 : decode cX5_clear 112 = .ok (.iconst 0, 1) := by decide +kernel
theorem dX5_clear_113 : decode cX5_clear 113 = .ok (.putfield 60, 3) := by decide +kernel
theorem dX5_clear_116 : decode cX5_clear 116 = .ok (.aload_n 0, 1) := by decide +kernel
theorem dX5_clear_117 : decode cX5_clear 117 = .ok (.getfield 42, 3) := by decide +kernel
theorem dX5_clear_120 : decode cX5_clear 120 = .ok (.invokevirtual 61, 3) := by decide +kernel
theorem dX5_clear_123 : decode cX5_clear 123 = .ok (.aload_n 0, 1) := by decide +kernel
theorem dX5_clear_124 : decode cX5_clear 124 = .ok (.getfield 46, 3) := by decide +kernel
theorem dX5_clear_127 : decode cX5_clear 127 = .ok (.invokevirtual 61, 3) := by decide +kernel
theorem dX5_clear_130 : decode cX5_clear 130 = .ok (.return_, 1) := by decide +kernel
theorem dX5_inches_0 : decode cX5_inches 0 = .ok (.aload_n 0, 1) := by decide +kernel
theorem dX5_inches_1 : decode cX5_inches 1 = .ok (.getfield 9, 3) := by decide +kernel
theorem dX5_inches_4 : decode cX5_inches 4 = .ok (.iconst 0, 1) := by decide +kernel
theorem dX5_inches_5 : decode cX5_inches 5 = .ok (.iaload, 1) := by decide +kernel
theorem dX5_inches_6 : decode cX5_inches 6 = .ok (.ireturn, 1) := by decide +kernel
theorem dX5_hand_0 : decode cX5_hand 0 = .ok (.aload_n 0, 1) := by decide +kernel
theorem dX5_hand_1 : decode cX5_hand 1 = .ok (.getfield 9, 3) := by decide +kernel
theorem dX5_hand_4 : decode cX5_hand 4 = .ok (.iconst 1, 1) := by decide +kernel
theorem dX5_hand_5 : decode cX5_hand 5 = .ok (.iaload, 1) := by decide +kernel
theorem dX5_hand_6 : decode cX5_hand 6 = .ok (.ireturn, 1) := by decide +kernel
theorem dX5_miss_0 : decode cX5_miss 0 = .ok (.aload_n 0, 1) := by decide +kernel
theorem dX5_miss_1 : decode cX5_miss 1 = .ok (.getfield 9, 3) := by decide +kernel
theorem dX5_miss_4 : decode cX5_miss 4 = .ok (.iconst 2, 1) := by decide +kernel
theorem dX5_miss_5 : decode cX5_miss 5 = .ok (.iaload, 1) := by decide +kernel
theorem dX5_miss_6 : decode cX5_miss 6 = .ok (.ireturn, 1) := by decide +kernel
theorem dX5_mark_0 : decode cX5_mark 0 = .ok (.aload_n 0, 1) := by decide +kernel
theorem dX5_mark_1 : decode cX5_mark 1 = .ok (.getfield 9, 3) := by decide +kernel
theorem dX5_mark_4 : decode cX5_mark 4 = .ok (.iconst 5, 1) := by decide +kernel
theorem dX5_mark_5 : decode cX5_mark 5 = .ok (.iaload, 1) := by decide +kernel
theorem dX5_mark_6 : decode cX5_mark 6 = .ok (.ireturn, 1) := by decide +kernel
theorem dX5_fullPressure_0 : decode cX5_fullPressure 0 = .ok (.sipush 1000, 3) := by decide +kernel
theorem dX5_fullPressure_3 : decode cX5_fullPressure 3 = .ok (.aload_n 0, 1) := by decide +kernel
theorem dX5_fullPressure_4 : decode cX5_fullPressure 4 = .ok (.getfield 9, 3) := by decide +kernel
theorem dX5_fullPressure_7 : decode cX5_fullPressure 7 = .ok (.iconst 4, 1) := by decide +kernel
theorem dX5_fullPressure_8 : decode cX5_fullPressure 8 = .ok (.iaload, 1) := by decide +kernel
theorem dX5_fullPressure_9 : decode cX5_fullPressure 9 = .ok (.imul, 1) := by decide +kernel
theorem dX5_fullPressure_10 : decode cX5_fullPressure 10 = .ok (.ireturn, 1) := by decide +kernel
theorem dX5_round_0 : decode cX5_round 0 = .ok (.iload_n 1, 1) := by decide +kernel
theorem dX5_round_1 : decode cX5_round 1 = .ok (.aload_n 0, 1) := by decide +kernel
theorem dX5_round_2 : decode cX5_round 2 = .ok (.getfield 9, 3) := by decide +kernel
theorem dX5_round_5 : decode cX5_round 5 = .ok (.iconst 0, 1) := by decide +kernel
theorem dX5_round_6 : decode cX5_round 6 = .ok (.iaload, 1) := by decide +kernel
theorem dX5_round_7 : decode cX5_round 7 = .ok (.bipush 12, 2) := by decide +kernel
theorem dX5_round_9 : decode cX5_round 9 = .ok (.invokestatic 62, 3) := by decide +kernel
theorem dX5_round_12 : decode cX5_round 12 = .ok (.invokestatic 68, 3) := by decide +kernel
theorem dX5_round_15 : decode cX5_round 15 = .ok (.ireturn, 1) := by decide +kernel
theorem dX5_quarterOf_0 : decode cX5_quarterOf 0 = .ok (.iload_n 1, 1) := by decide +kernel
theorem dX5_quarterOf_1 : decode cX5_quarterOf 1 = .ok (.iconst 4, 1) := by decide +kernel
theorem dX5_quarterOf_2 : decode cX5_quarterOf 2 = .ok (.imul, 1) := by decide +kernel
theorem dX5_quarterOf_3 : decode cX5_quarterOf 3 = .ok (.aload_n 0, 1) := by decide +kernel
theorem dX5_quarterOf_4 : decode cX5_quarterOf 4 = .ok (.invokevirtual 71, 3) := by decide +kernel
theorem dX5_quarterOf_7 : decode cX5_quarterOf 7 = .ok (.bipush 12, 2) := by decide +kernel
theorem dX5_quarterOf_9 : decode cX5_quarterOf 9 = .ok (.invokestatic 62, 3) := by decide +kernel
theorem dX5_quarterOf_12 : decode cX5_quarterOf 12 = .ok (.idiv, 1) := by decide +kernel
theorem dX5_quarterOf_13 : decode cX5_quarterOf 13 = .ok (.ireturn, 1) := by decide +kernel
theorem dX5_looksAt_0 : decode cX5_looksAt 0 = .ok (.aload_n 0, 1) := by decide +kernel
theorem dX5_looksAt_1 : decode cX5_looksAt 1 = .ok (.iload_n 2, 1) := by decide +kernel
theorem dX5_looksAt_2 : decode cX5_looksAt 2 = .ok (.iload_n 1, 1) := by decide +kernel
theorem dX5_looksAt_3 : decode cX5_looksAt 3 = .ok (.isub, 1) := by decide +kernel
theorem dX5_looksAt_4 : decode cX5_looksAt 4 = .ok (.invokevirtual 75, 3) := by decide +kernel
theorem dX5_looksAt_7 : decode cX5_looksAt 7 = .ok (.aload_n 0, 1) := by decide +kernel
theorem dX5_looksAt_8 : decode cX5_looksAt 8 = .ok (.invokevirtual 79, 3) := by decide +kernel
theorem dX5_looksAt_11 : decode cX5_looksAt 11 = .ok (.if_icmp .ge 7, 3) := by decide +kernel
theorem dX5_looksAt_14 : decode cX5_looksAt 14 = .ok (.iconst 1, 1) := by decide +kernel
theorem dX5_looksAt_15 : decode cX5_looksAt 15 = .ok (.goto 4, 3) := by decide +kernel
theorem dX5_looksAt_18 : decode cX5_looksAt 18 = .ok (.iconst 0, 1) := by decide +kernel
theorem dX5_looksAt_19 : decode cX5_looksAt 19 = .ok (.ireturn, 1) := by decide +kernel
theorem dX5_sweptInch_0 : decode cX5_sweptInch 0 = .ok (.aload_n 0, 1) := by decide +kernel
theorem dX5_sweptInch_1 : decode cX5_sweptInch 1 = .ok (.invokevirtual 79, 3) := by decide +kernel
theorem dX5_sweptInch_4 : decode cX5_sweptInch 4 = .ok (.iconst 1, 1) := by decide +kernel
theorem dX5_sweptInch_5 : decode cX5_sweptInch 5 = .ok (.invokestatic 62, 3) := by decide +kernel
theorem dX5_sweptInch_8 : decode cX5_sweptInch 8 = .ok (.istore_n 3, 1) := by decide +kernel
theorem dX5_sweptInch_9 : decode cX5_sweptInch 9 = .ok (.aload_n 0, 1) := by decide +kernel
theorem dX5_sweptInch_10 : decode cX5_sweptInch 10 = .ok (.invokevirtual 71, 3) := by decide +kernel
theorem dX5_sweptInch_13 : decode cX5_sweptInch 13 = .ok (.iload_n 3, 1) := by decide +kernel
theorem dX5_sweptInch_14 : decode cX5_sweptInch 14 = .ok (.iadd, 1) := by decide +kernel
theorem dX5_sweptInch_15 : decode cX5_sweptInch 15 = .ok (.iconst 1, 1) := by decide +kernel
theorem dX5_sweptInch_16 : decode cX5_sweptInch 16 = .ok (.isub, 1) := by decide +kernel
theorem dX5_sweptInch_17 : decode cX5_sweptInch 17 = .ok (.iload_n 3, 1) := by decide +kernel
theorem dX5_sweptInch_18 : decode cX5_sweptInch 18 = .ok (.idiv, 1) := by decide +kernel
theorem dX5_sweptInch_19 : decode cX5_sweptInch 19 = .ok (.istore 4, 2) := by decide +kernel
theorem dX5_sweptInch_21 : decode cX5_sweptInch 21 = .ok (.iload_n 1, 1) := by decide +kernel
theorem dX5_sweptInch_22 : decode cX5_sweptInch 22 = .ok (.iload_n 2, 1) := by decide +kernel
theorem dX5_sweptInch_23 : decode cX5_sweptInch 23 = .ok (.iconst 1, 1) := by decide +kernel
theorem dX5_sweptInch_24 : decode cX5_sweptInch 24 = .ok (.invokestatic 62, 3) := by decide +kernel
theorem dX5_sweptInch_27 : decode cX5_sweptInch 27 = .ok (.idiv, 1) := by decide +kernel
theorem dX5_sweptInch_28 : decode cX5_sweptInch 28 = .ok (.istore 5, 2) := by decide +kernel
theorem dX5_sweptInch_30 : decode cX5_sweptInch 30 = .ok (.iload 5, 2) := by decide +kernel
theorem dX5_sweptInch_32 : decode cX5_sweptInch 32 = .ok (.iload 4, 2) := by decide +kernel
theorem dX5_sweptInch_34 : decode cX5_sweptInch 34 = .ok (.iconst 1, 1) := by decide +kernel
theorem dX5_sweptInch_35 : decode cX5_sweptInch 35 = .ok (.invokestatic 62, 3) := by decide +kernel
theorem dX5_sweptInch_38 : decode cX5_sweptInch 38 = .ok (.irem, 1) := by decide +kernel
theorem dX5_sweptInch_39 : decode cX5_sweptInch 39 = .ok (.iload_n 3, 1) := by decide +kernel
theorem dX5_sweptInch_40 : decode cX5_sweptInch 40 = .ok (.imul, 1) := by decide +kernel
theorem dX5_sweptInch_41 : decode cX5_sweptInch 41 = .ok (.ireturn, 1) := by decide +kernel
theorem dX5_mayMake_0 : decode cX5_mayMake 0 = .ok (.iload_n 0, 1) := by decide +kernel
theorem dX5_mayMake_1 : decode cX5_mayMake 1 = .ok (.tableswitch 53 0 2 #[27, 37, 42], 27) := by decide +kernel
theorem dX5_mayMake_28 : decode cX5_mayMake 28 = .ok (.iload_n 2, 1) := by decide +kernel
theorem dX5_mayMake_29 : decode cX5_mayMake 29 = .ok (.ifCond .ne 7, 3) := by decide +kernel
theorem dX5_mayMake_32 : decode cX5_mayMake 32 = .ok (.iconst 1, 1) := by decide +kernel
theorem dX5_mayMake_33 : decode cX5_mayMake 33 = .ok (.goto 4, 3) := by decide +kernel
theorem dX5_mayMake_36 : decode cX5_mayMake 36 = .ok (.iconst 0, 1) := by decide +kernel
theorem dX5_mayMake_37 : decode cX5_mayMake 37 = .ok (.ireturn, 1) := by decide +kernel
theorem dX5_mayMake_38 : decode cX5_mayMake 38 = .ok (.iload_n 2, 1) := by decide +kernel
theorem dX5_mayMake_39 : decode cX5_mayMake 39 = .ok (.invokestatic 82, 3) := by decide +kernel
theorem dX5_mayMake_42 : decode cX5_mayMake 42 = .ok (.ireturn, 1) := by decide +kernel
theorem dX5_mayMake_43 : decode cX5_mayMake 43 = .ok (.iload_n 2, 1) := by decide +kernel
theorem dX5_mayMake_44 : decode cX5_mayMake 44 = .ok (.iconst 3, 1) := by decide +kernel
theorem dX5_mayMake_45 : decode cX5_mayMake 45 = .ok (.if_icmp .ne 7, 3) := by decide +kernel
theorem dX5_mayMake_48 : decode cX5_mayMake 48 = .ok (.iconst 1, 1) := by decide +kernel
theorem dX5_mayMake_49 : decode cX5_mayMake 49 = .ok (.goto 4, 3) := by decide +kernel
theorem dX5_mayMake_52 : decode cX5_mayMake 52 = .ok (.iconst 0, 1) := by decide +kernel
theorem dX5_mayMake_53 : decode cX5_mayMake 53 = .ok (.ireturn, 1) := by decide +kernel
theorem dX5_mayMake_54 : decode cX5_mayMake 54 = .ok (.iload_n 2, 1) := by decide +kernel
theorem dX5_mayMake_55 : decode cX5_mayMake 55 = .ok (.iconst 3, 1) := by decide +kernel
theorem dX5_mayMake_56 : decode cX5_mayMake 56 = .ok (.if_icmp .ne 11, 3) := by decide +kernel
theorem dX5_mayMake_59 : decode cX5_mayMake 59 = .ok (.iload_n 1, 1) := by decide +kernel
theorem dX5_mayMake_60 : decode cX5_mayMake 60 = .ok (.ifCond .ne 7, 3) := by decide +kernel
theorem dX5_mayMake_63 : decode cX5_mayMake 63 = .ok (.iconst 1, 1) := by decide +kernel
theorem dX5_mayMake_64 : decode cX5_mayMake 64 = .ok (.goto 4, 3) := by decide +kernel
theorem dX5_mayMake_67 : decode cX5_mayMake 67 = .ok (.iconst 0, 1) := by decide +kernel
theorem dX5_mayMake_68 : decode cX5_mayMake 68 = .ok (.ireturn, 1) := by decide +kernel
theorem dX5_isFlank_0 : decode cX5_isFlank 0 = .ok (.iload_n 0, 1) := by decide +kernel
theorem dX5_isFlank_1 : decode cX5_isFlank 1 = .ok (.ifCond .eq 12, 3) := by decide +kernel
theorem dX5_isFlank_4 : decode cX5_isFlank 4 = .ok (.iload_n 0, 1) := by decide +kernel
theorem dX5_isFlank_5 : decode cX5_isFlank 5 = .ok (.iconst 3, 1) := by decide +kernel
theorem dX5_isFlank_6 : decode cX5_isFlank 6 = .ok (.if_icmp .eq 7, 3) := by decide +kernel
theorem dX5_isFlank_9 : decode cX5_isFlank 9 = .ok (.iconst 1, 1) := by decide +kernel
theorem dX5_isFlank_10 : decode cX5_isFlank 10 = .ok (.goto 4, 3) := by decide +kernel
theorem dX5_isFlank_13 : decode cX5_isFlank 13 = .ok (.iconst 0, 1) := by decide +kernel
theorem dX5_isFlank_14 : decode cX5_isFlank 14 = .ok (.ireturn, 1) := by decide +kernel
theorem dX5_shareOfCause_0 : decode cX5_shareOfCause 0 = .ok (.iload_n 1, 1) := by decide +kernel
theorem dX5_shareOfCause_1 : decode cX5_shareOfCause 1 = .ok (.iconst 3, 1) := by decide +kernel
theorem dX5_shareOfCause_2 : decode cX5_shareOfCause 2 = .ok (.if_icmp .ne 7, 3) := by decide +kernel
theorem dX5_shareOfCause_5 : decode cX5_shareOfCause 5 = .ok (.iconst 1, 1) := by decide +kernel
theorem dX5_shareOfCause_6 : decode cX5_shareOfCause 6 = .ok (.goto 21, 3) := by decide +kernel
theorem dX5_shareOfCause_9 : decode cX5_shareOfCause 9 = .ok (.iload_n 1, 1) := by decide +kernel
theorem dX5_shareOfCause_10 : decode cX5_shareOfCause 10 = .ok (.iconst 1, 1) := by decide +kernel
theorem dX5_shareOfCause_11 : decode cX5_shareOfCause 11 = .ok (.if_icmp .ne 12, 3) := by decide +kernel
theorem dX5_shareOfCause_14 : decode cX5_shareOfCause 14 = .ok (.iconst 2, 1) := by decide +kernel
theorem dX5_shareOfCause_15 : decode cX5_shareOfCause 15 = .ok (.aload_n 0, 1) := by decide +kernel
theorem dX5_shareOfCause_16 : decode cX5_shareOfCause 16 = .ok (.invokevirtual 71, 3) := by decide +kernel
theorem dX5_shareOfCause_19 : decode cX5_shareOfCause 19 = .ok (.imul, 1) := by decide +kernel
theorem dX5_shareOfCause_20 : decode cX5_shareOfCause 20 = .ok (.goto 7, 3) := by decide +kernel
theorem dX5_shareOfCause_23 : decode cX5_shareOfCause 23 = .ok (.aload_n 0, 1) := by decide +kernel
theorem dX5_shareOfCause_24 : decode cX5_shareOfCause 24 = .ok (.invokevirtual 71, 3) := by decide +kernel
theorem dX5_shareOfCause_27 : decode cX5_shareOfCause 27 = .ok (.istore 4, 2) := by decide +kernel
theorem dX5_shareOfCause_29 : decode cX5_shareOfCause 29 = .ok (.aload_n 0, 1) := by decide +kernel
theorem dX5_shareOfCause_30 : decode cX5_shareOfCause 30 = .ok (.getfield 15, 3) := by decide +kernel
theorem dX5_shareOfCause_33 : decode cX5_shareOfCause 33 = .ok (.iload_n 1, 1) := by decide +kernel
theorem dX5_shareOfCause_34 : decode cX5_shareOfCause 34 = .ok (.iaload, 1) := by decide +kernel
theorem dX5_shareOfCause_35 : decode cX5_shareOfCause 35 = .ok (.i2l, 1) := by decide +kernel
theorem dX5_shareOfCause_36 : decode cX5_shareOfCause 36 = .ok (.lload_n 2, 1) := by decide +kernel
theorem dX5_shareOfCause_37 : decode cX5_shareOfCause 37 = .ok (.lmul, 1) := by decide +kernel
theorem dX5_shareOfCause_38 : decode cX5_shareOfCause 38 = .ok (.iload 4, 2) := by decide +kernel
theorem dX5_shareOfCause_40 : decode cX5_shareOfCause 40 = .ok (.iconst 1, 1) := by decide +kernel
theorem dX5_shareOfCause_41 : decode cX5_shareOfCause 41 = .ok (.invokestatic 62, 3) := by decide +kernel
theorem dX5_shareOfCause_44 : decode cX5_shareOfCause 44 = .ok (.i2l, 1) := by decide +kernel
theorem dX5_shareOfCause_45 : decode cX5_shareOfCause 45 = .ok (.ldiv, 1) := by decide +kernel
theorem dX5_shareOfCause_46 : decode cX5_shareOfCause 46 = .ok (.lreturn, 1) := by decide +kernel
theorem dX5_weightOfCause_0 : decode cX5_weightOfCause 0 = .ok (.iload_n 2, 1) := by decide +kernel
theorem dX5_weightOfCause_1 : decode cX5_weightOfCause 1 = .ok (.aload_n 0, 1) := by decide +kernel
theorem dX5_weightOfCause_2 : decode cX5_weightOfCause 2 = .ok (.getfield 21, 3) := by decide +kernel
theorem dX5_weightOfCause_5 : decode cX5_weightOfCause 5 = .ok (.getfield 86, 3) := by decide +kernel
theorem dX5_weightOfCause_8 : decode cX5_weightOfCause 8 = .ok (.iload_n 1, 1) := by decide +kernel
theorem dX5_weightOfCause_9 : decode cX5_weightOfCause 9 = .ok (.iaload, 1) := by decide +kernel
theorem dX5_weightOfCause_10 : decode cX5_weightOfCause 10 = .ok (.aload_n 0, 1) := by decide +kernel
theorem dX5_weightOfCause_11 : decode cX5_weightOfCause 11 = .ok (.getfield 21, 3) := by decide +kernel
theorem dX5_weightOfCause_14 : decode cX5_weightOfCause 14 = .ok (.getfield 89, 3) := by decide +kernel
theorem dX5_weightOfCause_17 : decode cX5_weightOfCause 17 = .ok (.iload_n 1, 1) := by decide +kernel
theorem dX5_weightOfCause_18 : decode cX5_weightOfCause 18 = .ok (.iaload, 1) := by decide +kernel
theorem dX5_weightOfCause_19 : decode cX5_weightOfCause 19 = .ok (.invokestatic 92, 3) := by decide +kernel
theorem dX5_weightOfCause_22 : decode cX5_weightOfCause 22 = .ok (.ifCond .ne 5, 3) := by decide +kernel
theorem dX5_weightOfCause_25 : decode cX5_weightOfCause 25 = .ok (.lconst 0, 1) := by decide +kernel
theorem dX5_weightOfCause_26 : decode cX5_weightOfCause 26 = .ok (.lreturn, 1) := by decide +kernel
theorem dX5_weightOfCause_27 : decode cX5_weightOfCause 27 = .ok (.aload_n 0, 1) := by decide +kernel
theorem dX5_weightOfCause_28 : decode cX5_weightOfCause 28 = .ok (.iload_n 2, 1) := by decide +kernel
theorem dX5_weightOfCause_29 : decode cX5_weightOfCause 29 = .ok (.ldc2_w 96, 3) := by decide +kernel
theorem dX5_weightOfCause_32 : decode cX5_weightOfCause 32 = .ok (.invokevirtual 98, 3) := by decide +kernel
theorem dX5_weightOfCause_35 : decode cX5_weightOfCause 35 = .ok (.lstore_n 3, 1) := by decide +kernel
theorem dX5_weightOfCause_36 : decode cX5_weightOfCause 36 = .ok (.iload_n 2, 1) := by decide +kernel
theorem dX5_weightOfCause_37 : decode cX5_weightOfCause 37 = .ok (.iconst 1, 1) := by decide +kernel
theorem dX5_weightOfCause_38 : decode cX5_weightOfCause 38 = .ok (.if_icmp .ne 19, 3) := by decide +kernel
theorem dX5_weightOfCause_41 : decode cX5_weightOfCause 41 = .ok (.aload_n 0, 1) := by decide +kernel
theorem dX5_weightOfCause_42 : decode cX5_weightOfCause 42 = .ok (.iload_n 1, 1) := by decide +kernel
theorem dX5_weightOfCause_43 : decode cX5_weightOfCause 43 = .ok (.invokevirtual 102, 3) := by decide +kernel
theorem dX5_weightOfCause_46 : decode cX5_weightOfCause 46 = .ok (.ifCond .eq 11, 3) := by decide +kernel
theorem dX5_weightOfCause_49 : decode cX5_weightOfCause 49 = .ok (.ldc2_w 105, 3) := by decide +kernel
theorem dX5_weightOfCause_52 : decode cX5_weightOfCause 52 = .ok (.lload_n 3, 1) := by decide +kernel
theorem dX5_weightOfCause_53 : decode cX5_weightOfCause 53 = .ok (.lmul, 1) := by decide +kernel
theorem dX5_weightOfCause_54 : decode cX5_weightOfCause 54 = .ok (.goto 4, 3) := by decide +kernel
theorem dX5_weightOfCause_57 : decode cX5_weightOfCause 57 = .ok (.lload_n 3, 1) := by decide +kernel
theorem dX5_weightOfCause_58 : decode cX5_weightOfCause 58 = .ok (.lreturn, 1) := by decide +kernel
theorem dX5_hasFlankBeside_0 : decode cX5_hasFlankBeside 0 = .ok (.iconst 0, 1) := by decide +kernel
theorem dX5_hasFlankBeside_1 : decode cX5_hasFlankBeside 1 = .ok (.istore_n 2, 1) := by decide +kernel
theorem dX5_hasFlankBeside_2 : decode cX5_hasFlankBeside 2 = .ok (.iload_n 2, 1) := by decide +kernel
theorem dX5_hasFlankBeside_3 : decode cX5_hasFlankBeside 3 = .ok (.aload_n 0, 1) := by decide +kernel
theorem dX5_hasFlankBeside_4 : decode cX5_hasFlankBeside 4 = .ok (.getfield 21, 3) := by decide +kernel
theorem dX5_hasFlankBeside_7 : decode cX5_hasFlankBeside 7 = .ok (.getfield 55, 3) := by decide +kernel
theorem dX5_hasFlankBeside_10 : decode cX5_hasFlankBeside 10 = .ok (.if_icmp .ge 41, 3) := by decide +kernel
theorem dX5_hasFlankBeside_13 : decode cX5_hasFlankBeside 13 = .ok (.iload_n 2, 1) := by decide +kernel
theorem dX5_hasFlankBeside_14 : decode cX5_hasFlankBeside 14 = .ok (.iload_n 1, 1) := by decide +kernel
theorem dX5_hasFlankBeside_15 : decode cX5_hasFlankBeside 15 = .ok (.if_icmp .eq 30, 3) := by decide +kernel
theorem dX5_hasFlankBeside_18 : decode cX5_hasFlankBeside 18 = .ok (.aload_n 0, 1) := by decide +kernel
theorem dX5_hasFlankBeside_19 : decode cX5_hasFlankBeside 19 = .ok (.getfield 21, 3) := by decide +kernel
theorem dX5_hasFlankBeside_22 : decode cX5_hasFlankBeside 22 = .ok (.getfield 89, 3) := by decide +kernel
theorem dX5_hasFlankBeside_25 : decode cX5_hasFlankBeside 25 = .ok (.iload_n 2, 1) := by decide +kernel
theorem dX5_hasFlankBeside_26 : decode cX5_hasFlankBeside 26 = .ok (.iaload, 1) := by decide +kernel
theorem dX5_hasFlankBeside_27 : decode cX5_hasFlankBeside 27 = .ok (.invokestatic 82, 3) := by decide +kernel
theorem dX5_hasFlankBeside_30 : decode cX5_hasFlankBeside 30 = .ok (.ifCond .eq 15, 3) := by decide +kernel
theorem dX5_hasFlankBeside_33 : decode cX5_hasFlankBeside 33 = .ok (.aload_n 0, 1) := by decide +kernel
theorem dX5_hasFlankBeside_34 : decode cX5_hasFlankBeside 34 = .ok (.iload_n 2, 1) := by decide +kernel
theorem dX5_hasFlankBeside_35 : decode cX5_hasFlankBeside 35 = .ok (.iload_n 1, 1) := by decide +kernel
theorem dX5_hasFlankBeside_36 : decode cX5_hasFlankBeside 36 = .ok (.invokevirtual 107, 3) := by decide +kernel
theorem dX5_hasFlankBeside_39 : decode cX5_hasFlankBeside 39 = .ok (.iconst 1, 1) := by decide +kernel
theorem dX5_hasFlankBeside_40 : decode cX5_hasFlankBeside 40 = .ok (.if_icmp .gt 5, 3) := by decide +kernel
theorem dX5_hasFlankBeside_43 : decode cX5_hasFlankBeside 43 = .ok (.iconst 1, 1) := by decide +kernel
theorem dX5_hasFlankBeside_44 : decode cX5_hasFlankBeside 44 = .ok (.ireturn, 1) := by decide +kernel
theorem dX5_hasFlankBeside_45 : decode cX5_hasFlankBeside 45 = .ok (.iinc 2 1, 3) := by decide +kernel
theorem dX5_hasFlankBeside_48 : decode cX5_hasFlankBeside 48 = .ok (.goto (-46), 3) := by decide +kernel
theorem dX5_hasFlankBeside_51 : decode cX5_hasFlankBeside 51 = .ok (.iconst 0, 1) := by decide +kernel
theorem dX5_hasFlankBeside_52 : decode cX5_hasFlankBeside 52 = .ok (.ireturn, 1) := by decide +kernel
theorem dX5_inchesApart_0 : decode cX5_inchesApart 0 = .ok (.aload_n 0, 1) := by decide +kernel
theorem dX5_inchesApart_1 : decode cX5_inchesApart 1 = .ok (.aload_n 0, 1) := by decide +kernel
theorem dX5_inchesApart_2 : decode cX5_inchesApart 2 = .ok (.getfield 21, 3) := by decide +kernel
theorem dX5_inchesApart_5 : decode cX5_inchesApart 5 = .ok (.getfield 86, 3) := by decide +kernel
theorem dX5_inchesApart_8 : decode cX5_inchesApart 8 = .ok (.iload_n 1, 1) := by decide +kernel
theorem dX5_inchesApart_9 : decode cX5_inchesApart 9 = .ok (.iaload, 1) := by decide +kernel
theorem dX5_inchesApart_10 : decode cX5_inchesApart 10 = .ok (.aload_n 0, 1) := by decide +kernel
theorem dX5_inchesApart_11 : decode cX5_inchesApart 11 = .ok (.getfield 21, 3) := by decide +kernel
theorem dX5_inchesApart_14 : decode cX5_inchesApart 14 = .ok (.getfield 86, 3) := by decide +kernel
theorem dX5_inchesApart_17 : decode cX5_inchesApart 17 = .ok (.iload_n 2, 1) := by decide +kernel
theorem dX5_inchesApart_18 : decode cX5_inchesApart 18 = .ok (.iaload, 1) := by decide +kernel
theorem dX5_inchesApart_19 : decode cX5_inchesApart 19 = .ok (.isub, 1) := by decide +kernel
theorem dX5_inchesApart_20 : decode cX5_inchesApart 20 = .ok (.invokevirtual 75, 3) := by decide +kernel
theorem dX5_inchesApart_23 : decode cX5_inchesApart 23 = .ok (.istore_n 3, 1) := by decide +kernel
theorem dX5_inchesApart_24 : decode cX5_inchesApart 24 = .ok (.iload_n 3, 1) := by decide +kernel
theorem dX5_inchesApart_25 : decode cX5_inchesApart 25 = .ok (.aload_n 0, 1) := by decide +kernel
theorem dX5_inchesApart_26 : decode cX5_inchesApart 26 = .ok (.invokevirtual 71, 3) := by decide +kernel
theorem dX5_inchesApart_29 : decode cX5_inchesApart 29 = .ok (.iload_n 3, 1) := by decide +kernel
theorem dX5_inchesApart_30 : decode cX5_inchesApart 30 = .ok (.isub, 1) := by decide +kernel
theorem dX5_inchesApart_31 : decode cX5_inchesApart 31 = .ok (.invokestatic 110, 3) := by decide +kernel
theorem dX5_inchesApart_34 : decode cX5_inchesApart 34 = .ok (.ireturn, 1) := by decide +kernel
theorem dX5_leaksAlikeEachMinute_0 : decode cX5_leaksAlikeEachMinute 0 = .ok (.iload_n 1, 1) := by decide +kernel
theorem dX5_leaksAlikeEachMinute_1 : decode cX5_leaksAlikeEachMinute 1 = .ok (.ifCond .eq 14, 3) := by decide +kernel
theorem dX5_leaksAlikeEachMinute_4 : decode cX5_leaksAlikeEachMinute 4 = .ok (.aload_n 0, 1) := by decide +kernel
theorem dX5_leaksAlikeEachMinute_5 : decode cX5_leaksAlikeEachMinute 5 = .ok (.getfield 42, 3) := by decide +kernel
theorem dX5_leaksAlikeEachMinute_8 : decode cX5_leaksAlikeEachMinute 8 = .ok (.iconst 3, 1) := by decide +kernel
theorem dX5_leaksAlikeEachMinute_9 : decode cX5_leaksAlikeEachMinute 9 = .ok (.invokevirtual 113, 3) := by decide +kernel
theorem dX5_leaksAlikeEachMinute_12 : decode cX5_leaksAlikeEachMinute 12 = .ok (.ifCond .ne 7, 3) := by decide +kernel
theorem dX5_leaksAlikeEachMinute_15 : decode cX5_leaksAlikeEachMinute 15 = .ok (.iconst 1, 1) := by decide +kernel
theorem dX5_leaksAlikeEachMinute_16 : decode cX5_leaksAlikeEachMinute 16 = .ok (.goto 4, 3) := by decide +kernel
theorem dX5_leaksAlikeEachMinute_19 : decode cX5_leaksAlikeEachMinute 19 = .ok (.iconst 0, 1) := by decide +kernel
theorem dX5_leaksAlikeEachMinute_20 : decode cX5_leaksAlikeEachMinute 20 = .ok (.ireturn, 1) := by decide +kernel
theorem dX5_goneBy_0 : decode cX5_goneBy 0 = .ok (.iconst 0, 1) := by decide +kernel
theorem dX5_goneBy_1 : decode cX5_goneBy 1 = .ok (.istore 5, 2) := by decide +kernel
theorem dX5_goneBy_3 : decode cX5_goneBy 3 = .ok (.iconst 0, 1) := by decide +kernel
theorem dX5_goneBy_4 : decode cX5_goneBy 4 = .ok (.istore 6, 2) := by decide +kernel
theorem dX5_goneBy_6 : decode cX5_goneBy 6 = .ok (.iload 6, 2) := by decide +kernel
theorem dX5_goneBy_8 : decode cX5_goneBy 8 = .ok (.aload_n 0, 1) := by decide +kernel
theorem dX5_goneBy_9 : decode cX5_goneBy 9 = .ok (.getfield 21, 3) := by decide +kernel
theorem dX5_goneBy_12 : decode cX5_goneBy 12 = .ok (.getfield 55, 3) := by decide +kernel
theorem dX5_goneBy_15 : decode cX5_goneBy 15 = .ok (.if_icmp .ge 38, 3) := by decide +kernel
theorem dX5_goneBy_18 : decode cX5_goneBy 18 = .ok (.iload_n 1, 1) := by decide +kernel
theorem dX5_goneBy_19 : decode cX5_goneBy 19 = .ok (.iload 6, 2) := by decide +kernel
theorem dX5_goneBy_21 : decode cX5_goneBy 21 = .ok (.ishr, 1) := by decide +kernel
theorem dX5_goneBy_22 : decode cX5_goneBy 22 = .ok (.iconst 1, 1) := by decide +kernel
theorem dX5_goneBy_23 : decode cX5_goneBy 23 = .ok (.iand, 1) := by decide +kernel
theorem dX5_goneBy_24 : decode cX5_goneBy 24 = .ok (.iconst 1, 1) := by decide +kernel
theorem dX5_goneBy_25 : decode cX5_goneBy 25 = .ok (.if_icmp .ne 22, 3) := by decide +kernel
theorem dX5_goneBy_28 : decode cX5_goneBy 28 = .ok (.iload 5, 2) := by decide +kernel
theorem dX5_goneBy_30 : decode cX5_goneBy 30 = .ok (.aload_n 0, 1) := by decide +kernel
theorem dX5_goneBy_31 : decode cX5_goneBy 31 = .ok (.iload 6, 2) := by decide +kernel
theorem dX5_goneBy_33 : decode cX5_goneBy 33 = .ok (.iload_n 2, 1) := by decide +kernel
theorem dX5_goneBy_34 : decode cX5_goneBy 34 = .ok (.sipush 1000, 3) := by decide +kernel
theorem dX5_goneBy_37 : decode cX5_goneBy 37 = .ok (.idiv, 1) := by decide +kernel
theorem dX5_goneBy_38 : decode cX5_goneBy 38 = .ok (.iload_n 3, 1) := by decide +kernel
theorem dX5_goneBy_39 : decode cX5_goneBy 39 = .ok (.iload 4, 2) := by decide +kernel
theorem dX5_goneBy_41 : decode cX5_goneBy 41 = .ok (.invokevirtual 116, 3) := by decide +kernel
theorem dX5_goneBy_44 : decode cX5_goneBy 44 = .ok (.iadd, 1) := by decide +kernel
theorem dX5_goneBy_45 : decode cX5_goneBy 45 = .ok (.istore 5, 2) := by decide +kernel
theorem dX5_goneBy_47 : decode cX5_goneBy 47 = .ok (.iinc 6 1, 3) := by decide +kernel
theorem dX5_goneBy_50 : decode cX5_goneBy 50 = .ok (.goto (-44), 3) := by decide +kernel
theorem dX5_goneBy_53 : decode cX5_goneBy 53 = .ok (.iload 5, 2) := by decide +kernel
theorem dX5_goneBy_55 : decode cX5_goneBy 55 = .ok (.iload_n 2, 1) := by decide +kernel
theorem dX5_goneBy_56 : decode cX5_goneBy 56 = .ok (.invokestatic 110, 3) := by decide +kernel
theorem dX5_goneBy_59 : decode cX5_goneBy 59 = .ok (.ireturn, 1) := by decide +kernel
theorem dX5_goneByHole_0 : decode cX5_goneByHole 0 = .ok (.aload_n 0, 1) := by decide +kernel
theorem dX5_goneByHole_1 : decode cX5_goneByHole 1 = .ok (.getfield 42, 3) := by decide +kernel
theorem dX5_goneByHole_4 : decode cX5_goneByHole 4 = .ok (.invokevirtual 120, 3) := by decide +kernel
theorem dX5_goneByHole_7 : decode cX5_goneByHole 7 = .ok (.ifCond .ne 15, 3) := by decide +kernel
theorem dX5_goneByHole_10 : decode cX5_goneByHole 10 = .ok (.aload_n 0, 1) := by decide +kernel
theorem dX5_goneByHole_11 : decode cX5_goneByHole 11 = .ok (.getfield 21, 3) := by decide +kernel
theorem dX5_goneByHole_14 : decode cX5_goneByHole 14 = .ok (.getfield 124, 3) := by decide +kernel
theorem dX5_goneByHole_17 : decode cX5_goneByHole 17 = .ok (.iload_n 1, 1) := by decide +kernel
theorem dX5_goneByHole_18 : decode cX5_goneByHole 18 = .ok (.iaload, 1) := by decide +kernel
theorem dX5_goneByHole_19 : decode cX5_goneByHole 19 = .ok (.iload_n 2, 1) := by decide +kernel
theorem dX5_goneByHole_20 : decode cX5_goneByHole 20 = .ok (.imul, 1) := by decide +kernel
theorem dX5_goneByHole_21 : decode cX5_goneByHole 21 = .ok (.ireturn, 1) := by decide +kernel
theorem dX5_goneByHole_22 : decode cX5_goneByHole 22 = .ok (.aload_n 0, 1) := by decide +kernel
theorem dX5_goneByHole_23 : decode cX5_goneByHole 23 = .ok (.getfield 49, 3) := by decide +kernel
theorem dX5_goneByHole_26 : decode cX5_goneByHole 26 = .ok (.iconst 0, 1) := by decide +kernel
theorem dX5_goneByHole_27 : decode cX5_goneByHole 27 = .ok (.aload_n 0, 1) := by decide +kernel
theorem dX5_goneByHole_28 : decode cX5_goneByHole 28 = .ok (.getfield 21, 3) := by decide +kernel
theorem dX5_goneByHole_31 : decode cX5_goneByHole 31 = .ok (.getfield 124, 3) := by decide +kernel
theorem dX5_goneByHole_34 : decode cX5_goneByHole 34 = .ok (.iload_n 1, 1) := by decide +kernel
theorem dX5_goneByHole_35 : decode cX5_goneByHole 35 = .ok (.iaload, 1) := by decide +kernel
theorem dX5_goneByHole_36 : decode cX5_goneByHole 36 = .ok (.iastore, 1) := by decide +kernel
theorem dX5_goneByHole_37 : decode cX5_goneByHole 37 = .ok (.aload_n 0, 1) := by decide +kernel
theorem dX5_goneByHole_38 : decode cX5_goneByHole 38 = .ok (.getfield 49, 3) := by decide +kernel
theorem dX5_goneByHole_41 : decode cX5_goneByHole 41 = .ok (.iconst 1, 1) := by decide +kernel
theorem dX5_goneByHole_42 : decode cX5_goneByHole 42 = .ok (.aload_n 0, 1) := by decide +kernel
theorem dX5_goneByHole_43 : decode cX5_goneByHole 43 = .ok (.getfield 21, 3) := by decide +kernel
theorem dX5_goneByHole_46 : decode cX5_goneByHole 46 = .ok (.getfield 89, 3) := by decide +kernel
theorem dX5_goneByHole_49 : decode cX5_goneByHole 49 = .ok (.iload_n 1, 1) := by decide +kernel
theorem dX5_goneByHole_50 : decode cX5_goneByHole 50 = .ok (.iaload, 1) := by decide +kernel
theorem dX5_goneByHole_51 : decode cX5_goneByHole 51 = .ok (.iastore, 1) := by decide +kernel
theorem dX5_goneByHole_52 : decode cX5_goneByHole 52 = .ok (.aload_n 0, 1) := by decide +kernel
theorem dX5_goneByHole_53 : decode cX5_goneByHole 53 = .ok (.getfield 49, 3) := by decide +kernel
theorem dX5_goneByHole_56 : decode cX5_goneByHole 56 = .ok (.iconst 2, 1) := by decide +kernel
theorem dX5_goneByHole_57 : decode cX5_goneByHole 57 = .ok (.iload_n 2, 1) := by decide +kernel
theorem dX5_goneByHole_58 : decode cX5_goneByHole 58 = .ok (.iastore, 1) := by decide +kernel
theorem dX5_goneByHole_59 : decode cX5_goneByHole 59 = .ok (.aload_n 0, 1) := by decide +kernel
theorem dX5_goneByHole_60 : decode cX5_goneByHole 60 = .ok (.getfield 49, 3) := by decide +kernel
theorem dX5_goneByHole_63 : decode cX5_goneByHole 63 = .ok (.iconst 3, 1) := by decide +kernel
theorem dX5_goneByHole_64 : decode cX5_goneByHole 64 = .ok (.iload_n 3, 1) := by decide +kernel
theorem dX5_goneByHole_65 : decode cX5_goneByHole 65 = .ok (.iastore, 1) := by decide +kernel
theorem dX5_goneByHole_66 : decode cX5_goneByHole 66 = .ok (.aload_n 0, 1) := by decide +kernel
theorem dX5_goneByHole_67 : decode cX5_goneByHole 67 = .ok (.getfield 49, 3) := by decide +kernel
theorem dX5_goneByHole_70 : decode cX5_goneByHole 70 = .ok (.iconst 4, 1) := by decide +kernel
theorem dX5_goneByHole_71 : decode cX5_goneByHole 71 = .ok (.iload 4, 2) := by decide +kernel
theorem dX5_goneByHole_73 : decode cX5_goneByHole 73 = .ok (.ifCond .eq 7, 3) := by decide +kernel
theorem dX5_goneByHole_76 : decode cX5_goneByHole 76 = .ok (.iconst 1, 1) := by decide +kernel
theorem dX5_goneByHole_77 : decode cX5_goneByHole 77 = .ok (.goto 4, 3) := by decide +kernel
theorem dX5_goneByHole_80 : decode cX5_goneByHole 80 = .ok (.iconst 0, 1) := by decide +kernel
theorem dX5_goneByHole_81 : decode cX5_goneByHole 81 = .ok (.iastore, 1) := by decide +kernel
theorem dX5_goneByHole_82 : decode cX5_goneByHole 82 = .ok (.iconst 0, 1) := by decide +kernel
theorem dX5_goneByHole_83 : decode cX5_goneByHole 83 = .ok (.aload_n 0, 1) := by decide +kernel
theorem dX5_goneByHole_84 : decode cX5_goneByHole 84 = .ok (.getfield 42, 3) := by decide +kernel
theorem dX5_goneByHole_87 : decode cX5_goneByHole 87 = .ok (.aload_n 0, 1) := by decide +kernel
theorem dX5_goneByHole_88 : decode cX5_goneByHole 88 = .ok (.getfield 49, 3) := by decide +kernel
theorem dX5_goneByHole_91 : decode cX5_goneByHole 91 = .ok (.invokevirtual 127, 3) := by decide +kernel
theorem dX5_goneByHole_94 : decode cX5_goneByHole 94 = .ok (.ldc 131, 2) := by decide +kernel
theorem dX5_goneByHole_96 : decode cX5_goneByHole 96 = .ok (.invokestatic 110, 3) := by decide +kernel
theorem dX5_goneByHole_99 : decode cX5_goneByHole 99 = .ok (.invokestatic 62, 3) := by decide +kernel
theorem dX5_goneByHole_102 : decode cX5_goneByHole 102 = .ok (.ireturn, 1) := by decide +kernel
theorem dX5_lasts_0 : decode cX5_lasts 0 = .ok (.aload_n 0, 1) := by decide +kernel
theorem dX5_lasts_1 : decode cX5_lasts 1 = .ok (.invokevirtual 132, 3) := by decide +kernel
theorem dX5_lasts_4 : decode cX5_lasts 4 = .ok (.istore 4, 2) := by decide +kernel
theorem dX5_lasts_6 : decode cX5_lasts 6 = .ok (.iconst 0, 1) := by decide +kernel
theorem dX5_lasts_7 : decode cX5_lasts 7 = .ok (.istore 5, 2) := by decide +kernel
theorem dX5_lasts_9 : decode cX5_lasts 9 = .ok (.iload 5, 2) := by decide +kernel
theorem dX5_lasts_11 : decode cX5_lasts 11 = .ok (.iload_n 2, 1) := by decide +kernel
theorem dX5_lasts_12 : decode cX5_lasts 12 = .ok (.if_icmp .ge 36, 3) := by decide +kernel
theorem dX5_lasts_15 : decode cX5_lasts 15 = .ok (.iload 4, 2) := by decide +kernel
theorem dX5_lasts_17 : decode cX5_lasts 17 = .ok (.aload_n 0, 1) := by decide +kernel
theorem dX5_lasts_18 : decode cX5_lasts 18 = .ok (.iload_n 1, 1) := by decide +kernel
theorem dX5_lasts_19 : decode cX5_lasts 19 = .ok (.iload 4, 2) := by decide +kernel
theorem dX5_lasts_21 : decode cX5_lasts 21 = .ok (.iload_n 3, 1) := by decide +kernel
theorem dX5_lasts_22 : decode cX5_lasts 22 = .ok (.iload 5, 2) := by decide +kernel
theorem dX5_lasts_24 : decode cX5_lasts 24 = .ok (.iadd, 1) := by decide +kernel
theorem dX5_lasts_25 : decode cX5_lasts 25 = .ok (.iconst 1, 1) := by decide +kernel
theorem dX5_lasts_26 : decode cX5_lasts 26 = .ok (.invokevirtual 135, 3) := by decide +kernel
theorem dX5_lasts_29 : decode cX5_lasts 29 = .ok (.isub, 1) := by decide +kernel
theorem dX5_lasts_30 : decode cX5_lasts 30 = .ok (.istore 4, 2) := by decide +kernel
theorem dX5_lasts_32 : decode cX5_lasts 32 = .ok (.iload 4, 2) := by decide +kernel
theorem dX5_lasts_34 : decode cX5_lasts 34 = .ok (.sipush 10000, 3) := by decide +kernel
theorem dX5_lasts_37 : decode cX5_lasts 37 = .ok (.if_icmp .ge 5, 3) := by decide +kernel
theorem dX5_lasts_40 : decode cX5_lasts 40 = .ok (.iconst 0, 1) := by decide +kernel
theorem dX5_lasts_41 : decode cX5_lasts 41 = .ok (.ireturn, 1) := by decide +kernel
theorem dX5_lasts_42 : decode cX5_lasts 42 = .ok (.iinc 5 1, 3) := by decide +kernel
theorem dX5_lasts_45 : decode cX5_lasts 45 = .ok (.goto (-36), 3) := by decide +kernel
theorem dX5_lasts_48 : decode cX5_lasts 48 = .ok (.iconst 1, 1) := by decide +kernel
theorem dX5_lasts_49 : decode cX5_lasts 49 = .ok (.ireturn, 1) := by decide +kernel
theorem dX5_holdsBy_0 : decode cX5_holdsBy 0 = .ok (.aload_n 0, 1) := by decide +kernel
theorem dX5_holdsBy_1 : decode cX5_holdsBy 1 = .ok (.getfield 46, 3) := by decide +kernel
theorem dX5_holdsBy_4 : decode cX5_holdsBy 4 = .ok (.invokevirtual 120, 3) := by decide +kernel
theorem dX5_holdsBy_7 : decode cX5_holdsBy 7 = .ok (.ifCond .ne 13, 3) := by decide +kernel
theorem dX5_holdsBy_10 : decode cX5_holdsBy 10 = .ok (.bipush 12, 2) := by decide +kernel
theorem dX5_holdsBy_12 : decode cX5_holdsBy 12 = .ok (.iload_n 2, 1) := by decide +kernel
theorem dX5_holdsBy_13 : decode cX5_holdsBy 13 = .ok (.imul, 1) := by decide +kernel
theorem dX5_holdsBy_14 : decode cX5_holdsBy 14 = .ok (.bipush 100, 2) := by decide +kernel
theorem dX5_holdsBy_16 : decode cX5_holdsBy 16 = .ok (.invokestatic 110, 3) := by decide +kernel
theorem dX5_holdsBy_19 : decode cX5_holdsBy 19 = .ok (.ireturn, 1) := by decide +kernel
theorem dX5_holdsBy_20 : decode cX5_holdsBy 20 = .ok (.aload_n 0, 1) := by decide +kernel
theorem dX5_holdsBy_21 : decode cX5_holdsBy 21 = .ok (.getfield 49, 3) := by decide +kernel
theorem dX5_holdsBy_24 : decode cX5_holdsBy 24 = .ok (.iconst 0, 1) := by decide +kernel
theorem dX5_holdsBy_25 : decode cX5_holdsBy 25 = .ok (.aload_n 0, 1) := by decide +kernel
theorem dX5_holdsBy_26 : decode cX5_holdsBy 26 = .ok (.getfield 21, 3) := by decide +kernel
theorem dX5_holdsBy_29 : decode cX5_holdsBy 29 = .ok (.getfield 124, 3) := by decide +kernel
theorem dX5_holdsBy_32 : decode cX5_holdsBy 32 = .ok (.iload_n 1, 1) := by decide +kernel
theorem dX5_holdsBy_33 : decode cX5_holdsBy 33 = .ok (.iaload, 1) := by decide +kernel
theorem dX5_holdsBy_34 : decode cX5_holdsBy 34 = .ok (.iastore, 1) := by decide +kernel
theorem dX5_holdsBy_35 : decode cX5_holdsBy 35 = .ok (.aload_n 0, 1) := by decide +kernel
theorem dX5_holdsBy_36 : decode cX5_holdsBy 36 = .ok (.getfield 49, 3) := by decide +kernel
theorem dX5_holdsBy_39 : decode cX5_holdsBy 39 = .ok (.iconst 1, 1) := by decide +kernel
theorem dX5_holdsBy_40 : decode cX5_holdsBy 40 = .ok (.aload_n 0, 1) := by decide +kernel
theorem dX5_holdsBy_41 : decode cX5_holdsBy 41 = .ok (.getfield 21, 3) := by decide +kernel
theorem dX5_holdsBy_44 : decode cX5_holdsBy 44 = .ok (.getfield 89, 3) := by decide +kernel
theorem dX5_holdsBy_47 : decode cX5_holdsBy 47 = .ok (.iload_n 1, 1) := by decide +kernel
theorem dX5_holdsBy_48 : decode cX5_holdsBy 48 = .ok (.iaload, 1) := by decide +kernel
theorem dX5_holdsBy_49 : decode cX5_holdsBy 49 = .ok (.iastore, 1) := by decide +kernel
theorem dX5_holdsBy_50 : decode cX5_holdsBy 50 = .ok (.aload_n 0, 1) := by decide +kernel
theorem dX5_holdsBy_51 : decode cX5_holdsBy 51 = .ok (.getfield 49, 3) := by decide +kernel
theorem dX5_holdsBy_54 : decode cX5_holdsBy 54 = .ok (.iconst 2, 1) := by decide +kernel
theorem dX5_holdsBy_55 : decode cX5_holdsBy 55 = .ok (.iload_n 2, 1) := by decide +kernel
theorem dX5_holdsBy_56 : decode cX5_holdsBy 56 = .ok (.iastore, 1) := by decide +kernel
theorem dX5_holdsBy_57 : decode cX5_holdsBy 57 = .ok (.aload_n 0, 1) := by decide +kernel
theorem dX5_holdsBy_58 : decode cX5_holdsBy 58 = .ok (.getfield 49, 3) := by decide +kernel
theorem dX5_holdsBy_61 : decode cX5_holdsBy 61 = .ok (.iconst 3, 1) := by decide +kernel
theorem dX5_holdsBy_62 : decode cX5_holdsBy 62 = .ok (.iload_n 3, 1) := by decide +kernel
theorem dX5_holdsBy_63 : decode cX5_holdsBy 63 = .ok (.iastore, 1) := by decide +kernel
theorem dX5_holdsBy_64 : decode cX5_holdsBy 64 = .ok (.aload_n 0, 1) := by decide +kernel
theorem dX5_holdsBy_65 : decode cX5_holdsBy 65 = .ok (.getfield 49, 3) := by decide +kernel
theorem dX5_holdsBy_68 : decode cX5_holdsBy 68 = .ok (.iconst 4, 1) := by decide +kernel
theorem dX5_holdsBy_69 : decode cX5_holdsBy 69 = .ok (.iload 4, 2) := by decide +kernel
theorem dX5_holdsBy_71 : decode cX5_holdsBy 71 = .ok (.iastore, 1) := by decide +kernel
theorem dX5_holdsBy_72 : decode cX5_holdsBy 72 = .ok (.aload_n 0, 1) := by decide +kernel
theorem dX5_holdsBy_73 : decode cX5_holdsBy 73 = .ok (.getfield 49, 3) := by decide +kernel
theorem dX5_holdsBy_76 : decode cX5_holdsBy 76 = .ok (.iconst 5, 1) := by decide +kernel
theorem dX5_holdsBy_77 : decode cX5_holdsBy 77 = .ok (.aload_n 0, 1) := by decide +kernel
theorem dX5_holdsBy_78 : decode cX5_holdsBy 78 = .ok (.iload_n 1, 1) := by decide +kernel
theorem dX5_holdsBy_79 : decode cX5_holdsBy 79 = .ok (.invokevirtual 138, 3) := by decide +kernel
theorem dX5_holdsBy_82 : decode cX5_holdsBy 82 = .ok (.iastore, 1) := by decide +kernel
theorem dX5_holdsBy_83 : decode cX5_holdsBy 83 = .ok (.iconst 0, 1) := by decide +kernel
theorem dX5_holdsBy_84 : decode cX5_holdsBy 84 = .ok (.aload_n 0, 1) := by decide +kernel
theorem dX5_holdsBy_85 : decode cX5_holdsBy 85 = .ok (.getfield 46, 3) := by decide +kernel
theorem dX5_holdsBy_88 : decode cX5_holdsBy 88 = .ok (.aload_n 0, 1) := by decide +kernel
theorem dX5_holdsBy_89 : decode cX5_holdsBy 89 = .ok (.getfield 49, 3) := by decide +kernel
theorem dX5_holdsBy_92 : decode cX5_holdsBy 92 = .ok (.invokevirtual 127, 3) := by decide +kernel
theorem dX5_holdsBy_95 : decode cX5_holdsBy 95 = .ok (.bipush 100, 2) := by decide +kernel
theorem dX5_holdsBy_97 : decode cX5_holdsBy 97 = .ok (.invokestatic 110, 3) := by decide +kernel
theorem dX5_holdsBy_100 : decode cX5_holdsBy 100 = .ok (.invokestatic 62, 3) := by decide +kernel
theorem dX5_holdsBy_103 : decode cX5_holdsBy 103 = .ok (.ireturn, 1) := by decide +kernel
theorem dX5_holesNear_0 : decode cX5_holesNear 0 = .ok (.iconst 0, 1) := by decide +kernel
theorem dX5_holesNear_1 : decode cX5_holesNear 1 = .ok (.istore_n 2, 1) := by decide +kernel
theorem dX5_holesNear_2 : decode cX5_holesNear 2 = .ok (.iconst 0, 1) := by decide +kernel
theorem dX5_holesNear_3 : decode cX5_holesNear 3 = .ok (.istore_n 3, 1) := by decide +kernel
theorem dX5_holesNear_4 : decode cX5_holesNear 4 = .ok (.iload_n 3, 1) := by decide +kernel
theorem dX5_holesNear_5 : decode cX5_holesNear 5 = .ok (.aload_n 0, 1) := by decide +kernel
theorem dX5_holesNear_6 : decode cX5_holesNear 6 = .ok (.getfield 21, 3) := by decide +kernel
theorem dX5_holesNear_9 : decode cX5_holesNear 9 = .ok (.getfield 55, 3) := by decide +kernel
theorem dX5_holesNear_12 : decode cX5_holesNear 12 = .ok (.if_icmp .ge 27, 3) := by decide +kernel
theorem dX5_holesNear_15 : decode cX5_holesNear 15 = .ok (.iload_n 3, 1) := by decide +kernel
theorem dX5_holesNear_16 : decode cX5_holesNear 16 = .ok (.iload_n 1, 1) := by decide +kernel
theorem dX5_holesNear_17 : decode cX5_holesNear 17 = .ok (.if_icmp .eq 16, 3) := by decide +kernel
theorem dX5_holesNear_20 : decode cX5_holesNear 20 = .ok (.aload_n 0, 1) := by decide +kernel
theorem dX5_holesNear_21 : decode cX5_holesNear 21 = .ok (.iload_n 3, 1) := by decide +kernel
theorem dX5_holesNear_22 : decode cX5_holesNear 22 = .ok (.iload_n 1, 1) := by decide +kernel
theorem dX5_holesNear_23 : decode cX5_holesNear 23 = .ok (.invokevirtual 107, 3) := by decide +kernel
theorem dX5_holesNear_26 : decode cX5_holesNear 26 = .ok (.iconst 2, 1) := by decide +kernel
theorem dX5_holesNear_27 : decode cX5_holesNear 27 = .ok (.if_icmp .gt 6, 3) := by decide +kernel
theorem dX5_holesNear_30 : decode cX5_holesNear 30 = .ok (.iinc 2 1, 3) := by decide +kernel
theorem dX5_holesNear_33 : decode cX5_holesNear 33 = .ok (.iinc 3 1, 3) := by decide +kernel
theorem dX5_holesNear_36 : decode cX5_holesNear 36 = .ok (.goto (-32), 3) := by decide +kernel
theorem dX5_holesNear_39 : decode cX5_holesNear 39 = .ok (.iload_n 2, 1) := by decide +kernel
theorem dX5_holesNear_40 : decode cX5_holesNear 40 = .ok (.ireturn, 1) := by decide +kernel
theorem dX5_glueFor_0 : decode cX5_glueFor 0 = .ok (.iconst 0, 1) := by decide +kernel
theorem dX5_glueFor_1 : decode cX5_glueFor 1 = .ok (.istore 5, 2) := by decide +kernel
theorem dX5_glueFor_3 : decode cX5_glueFor 3 = .ok (.iload 5, 2) := by decide +kernel
theorem dX5_glueFor_5 : decode cX5_glueFor 5 = .ok (.bipush 60, 2) := by decide +kernel
theorem dX5_glueFor_7 : decode cX5_glueFor 7 = .ok (.if_icmp .gt 26, 3) := by decide +kernel
theorem dX5_glueFor_10 : decode cX5_glueFor 10 = .ok (.aload_n 0, 1) := by decide +kernel
theorem dX5_glueFor_11 : decode cX5_glueFor 11 = .ok (.iload_n 1, 1) := by decide +kernel
theorem dX5_glueFor_12 : decode cX5_glueFor 12 = .ok (.iload 5, 2) := by decide +kernel
theorem dX5_glueFor_14 : decode cX5_glueFor 14 = .ok (.iload_n 2, 1) := by decide +kernel
theorem dX5_glueFor_15 : decode cX5_glueFor 15 = .ok (.iload_n 3, 1) := by decide +kernel
theorem dX5_glueFor_16 : decode cX5_glueFor 16 = .ok (.invokevirtual 141, 3) := by decide +kernel
theorem dX5_glueFor_19 : decode cX5_glueFor 19 = .ok (.iload 4, 2) := by decide +kernel
theorem dX5_glueFor_21 : decode cX5_glueFor 21 = .ok (.if_icmp .lt 6, 3) := by decide +kernel
theorem dX5_glueFor_24 : decode cX5_glueFor 24 = .ok (.iload 5, 2) := by decide +kernel
theorem dX5_glueFor_26 : decode cX5_glueFor 26 = .ok (.ireturn, 1) := by decide +kernel
theorem dX5_glueFor_27 : decode cX5_glueFor 27 = .ok (.iinc 5 1, 3) := by decide +kernel
theorem dX5_glueFor_30 : decode cX5_glueFor 30 = .ok (.goto (-27), 3) := by decide +kernel
theorem dX5_glueFor_33 : decode cX5_glueFor 33 = .ok (.iconst (-1), 1) := by decide +kernel
theorem dX5_glueFor_34 : decode cX5_glueFor 34 = .ok (.ireturn, 1) := by decide +kernel
theorem dX5_glueForAll_0 : decode cX5_glueForAll 0 = .ok (.iconst 0, 1) := by decide +kernel
theorem dX5_glueForAll_1 : decode cX5_glueForAll 1 = .ok (.istore 5, 2) := by decide +kernel
theorem dX5_glueForAll_3 : decode cX5_glueForAll 3 = .ok (.iconst 0, 1) := by decide +kernel
theorem dX5_glueForAll_4 : decode cX5_glueForAll 4 = .ok (.istore 6, 2) := by decide +kernel
theorem dX5_glueForAll_6 : decode cX5_glueForAll 6 = .ok (.iload 6, 2) := by decide +kernel
theorem dX5_glueForAll_8 : decode cX5_glueForAll 8 = .ok (.aload_n 0, 1) := by decide +kernel
theorem dX5_glueForAll_9 : decode cX5_glueForAll 9 = .ok (.getfield 21, 3) := by decide +kernel
theorem dX5_glueForAll_12 : decode cX5_glueForAll 12 = .ok (.getfield 55, 3) := by decide +kernel
theorem dX5_glueForAll_15 : decode cX5_glueForAll 15 = .ok (.if_icmp .ge 46, 3) := by decide +kernel
theorem dX5_glueForAll_18 : decode cX5_glueForAll 18 = .ok (.iload_n 1, 1) := by decide +kernel
theorem dX5_glueForAll_19 : decode cX5_glueForAll 19 = .ok (.iload 6, 2) := by decide +kernel
theorem dX5_glueForAll_21 : decode cX5_glueForAll 21 = .ok (.ishr, 1) := by decide +kernel
theorem dX5_glueForAll_22 : decode cX5_glueForAll 22 = .ok (.iconst 1, 1) := by decide +kernel
theorem dX5_glueForAll_23 : decode cX5_glueForAll 23 = .ok (.iand, 1) := by decide +kernel
theorem dX5_glueForAll_24 : decode cX5_glueForAll 24 = .ok (.iconst 1, 1) := by decide +kernel
theorem dX5_glueForAll_25 : decode cX5_glueForAll 25 = .ok (.if_icmp .ne 30, 3) := by decide +kernel
theorem dX5_glueForAll_28 : decode cX5_glueForAll 28 = .ok (.aload_n 0, 1) := by decide +kernel
theorem dX5_glueForAll_29 : decode cX5_glueForAll 29 = .ok (.iload 6, 2) := by decide +kernel
theorem dX5_glueForAll_31 : decode cX5_glueForAll 31 = .ok (.iload_n 2, 1) := by decide +kernel
theorem dX5_glueForAll_32 : decode cX5_glueForAll 32 = .ok (.iload_n 3, 1) := by decide +kernel
theorem dX5_glueForAll_33 : decode cX5_glueForAll 33 = .ok (.iload 4, 2) := by decide +kernel
theorem dX5_glueForAll_35 : decode cX5_glueForAll 35 = .ok (.invokevirtual 145, 3) := by decide +kernel
theorem dX5_glueForAll_38 : decode cX5_glueForAll 38 = .ok (.istore 7, 2) := by decide +kernel
theorem dX5_glueForAll_40 : decode cX5_glueForAll 40 = .ok (.iload 7, 2) := by decide +kernel
theorem dX5_glueForAll_42 : decode cX5_glueForAll 42 = .ok (.iconst (-1), 1) := by decide +kernel
theorem dX5_glueForAll_43 : decode cX5_glueForAll 43 = .ok (.if_icmp .ne 5, 3) := by decide +kernel
theorem dX5_glueForAll_46 : decode cX5_glueForAll 46 = .ok (.iconst (-1), 1) := by decide +kernel
theorem dX5_glueForAll_47 : decode cX5_glueForAll 47 = .ok (.ireturn, 1) := by decide +kernel
theorem dX5_glueForAll_48 : decode cX5_glueForAll 48 = .ok (.iload 5, 2) := by decide +kernel
theorem dX5_glueForAll_50 : decode cX5_glueForAll 50 = .ok (.iload 7, 2) := by decide +kernel
theorem dX5_glueForAll_52 : decode cX5_glueForAll 52 = .ok (.iadd, 1) := by decide +kernel
theorem dX5_glueForAll_53 : decode cX5_glueForAll 53 = .ok (.istore 5, 2) := by decide +kernel
theorem dX5_glueForAll_55 : decode cX5_glueForAll 55 = .ok (.iinc 6 1, 3) := by decide +kernel
theorem dX5_glueForAll_58 : decode cX5_glueForAll 58 = .ok (.goto (-52), 3) := by decide +kernel
theorem dX5_glueForAll_61 : decode cX5_glueForAll 61 = .ok (.iload 5, 2) := by decide +kernel
theorem dX5_glueForAll_63 : decode cX5_glueForAll 63 = .ok (.ireturn, 1) := by decide +kernel
theorem dX6_init_0 : decode cX6_init 0 = .ok (.aload_n 0, 1) := by decide +kernel
theorem dX6_init_1 : decode cX6_init 1 = .ok (.invokespecial 1, 3) := by decide +kernel
theorem dX6_init_4 : decode cX6_init 4 = .ok (.aload_n 0, 1) := by decide +kernel
theorem dX6_init_5 : decode cX6_init 5 = .ok (.aload_n 1, 1) := by decide +kernel
theorem dX6_init_6 : decode cX6_init 6 = .ok (.putfield 7, 3) := by decide +kernel
theorem dX6_init_9 : decode cX6_init 9 = .ok (.aload_n 0, 1) := by decide +kernel
theorem dX6_init_10 : decode cX6_init 10 = .ok (.iload_n 2, 1) := by decide +kernel
theorem dX6_init_11 : decode cX6_init 11 = .ok (.putfield 13, 3) := by decide +kernel
theorem dX6_init_14 : decode cX6_init 14 = .ok (.aload_n 0, 1) := by decide +kernel
theorem dX6_init_15 : decode cX6_init 15 = .ok (.iload_n 3, 1) := by decide +kernel
theorem dX6_init_16 : decode cX6_init 16 = .ok (.putfield 17, 3) := by decide +kernel
theorem dX6_init_19 : decode cX6_init 19 = .ok (.aload_n 0, 1) := by decide +kernel
theorem dX6_init_20 : decode cX6_init 20 = .ok (.iload 4, 2) := by decide +kernel
theorem dX6_init_22 : decode cX6_init 22 = .ok (.putfield 20, 3) := by decide +kernel
theorem dX6_init_25 : decode cX6_init 25 = .ok (.aload_n 0, 1) := by decide +kernel
theorem dX6_init_26 : decode cX6_init 26 = .ok (.aload 5, 2) := by decide +kernel
theorem dX6_init_28 : decode cX6_init 28 = .ok (.putfield 23, 3) := by decide +kernel
theorem dX6_init_31 : decode cX6_init 31 = .ok (.return_, 1) := by decide +kernel
theorem dX6_ofNew_0 : decode cX6_ofNew 0 = .ok (.new 8, 3) := by decide +kernel
theorem dX6_ofNew_3 : decode cX6_ofNew 3 = .ok (.dup, 1) := by decide +kernel
theorem dX6_ofNew_4 : decode cX6_ofNew 4 = .ok (.aconst_null, 1) := by decide +kernel
theorem dX6_ofNew_5 : decode cX6_ofNew 5 = .ok (.aload_n 0, 1) := by decide +kernel
theorem dX6_ofNew_6 : decode cX6_ofNew 6 = .ok (.invokevirtual 27, 3) := by decide +kernel
theorem dX6_ofNew_9 : decode cX6_ofNew 9 = .ok (.iconst 0, 1) := by decide +kernel
theorem dX6_ofNew_10 : decode cX6_ofNew 10 = .ok (.iconst 0, 1) := by decide +kernel
theorem dX6_ofNew_11 : decode cX6_ofNew 11 = .ok (.aload_n 0, 1) := by decide +kernel
theorem dX6_ofNew_12 : decode cX6_ofNew 12 = .ok (.invokestatic 33, 3) := by decide +kernel
theorem dX6_ofNew_15 : decode cX6_ofNew 15 = .ok (.invokespecial 39, 3) := by decide +kernel
theorem dX6_ofNew_18 : decode cX6_ofNew 18 = .ok (.areturn, 1) := by decide +kernel
theorem dX7_init_0 : decode cX7_init 0 = .ok (.aload_n 0, 1) := by decide +kernel
theorem dX7_init_1 : decode cX7_init 1 = .ok (.invokespecial 3, 3) := by decide +kernel
theorem dX7_init_4 : decode cX7_init 4 = .ok (.aload_n 0, 1) := by decide +kernel
theorem dX7_init_5 : decode cX7_init 5 = .ok (.sipush 700, 3) := by decide +kernel
theorem dX7_init_8 : decode cX7_init 8 = .ok (.newarray .byte, 2) := by decide +kernel
theorem dX7_init_10 : decode cX7_init 10 = .ok (.putfield 9, 3) := by decide +kernel
theorem dX7_init_13 : decode cX7_init 13 = .ok (.return_, 1) := by decide +kernel
theorem dX7_hasRoom_0 : decode cX7_hasRoom 0 = .ok (.aload_n 0, 1) := by decide +kernel
theorem dX7_hasRoom_1 : decode cX7_hasRoom 1 = .ok (.getfield 15, 3) := by decide +kernel
theorem dX7_hasRoom_4 : decode cX7_hasRoom 4 = .ok (.bipush 20, 2) := by decide +kernel
theorem dX7_hasRoom_6 : decode cX7_hasRoom 6 = .ok (.iadd, 1) := by decide +kernel
theorem dX7_hasRoom_7 : decode cX7_hasRoom 7 = .ok (.sipush 700, 3) := by decide +kernel
theorem dX7_hasRoom_10 : decode cX7_hasRoom 10 = .ok (.if_icmp .gt 7, 3) := by decide +kernel
theorem dX7_hasRoom_13 : decode cX7_hasRoom 13 = .ok (.iconst 1, 1) := by decide +kernel
theorem dX7_hasRoom_14 : decode cX7_hasRoom 14 = .ok (.goto 4, 3) := by decide +kernel
theorem dX7_hasRoom_17 : decode cX7_hasRoom 17 = .ok (.iconst 0, 1) := by decide +kernel
theorem dX7_hasRoom_18 : decode cX7_hasRoom 18 = .ok (.ireturn, 1) := by decide +kernel
theorem dX7_add_0 : decode cX7_add 0 = .ok (.bipush 24, 2) := by decide +kernel
theorem dX7_add_2 : decode cX7_add 2 = .ok (.istore_n 2, 1) := by decide +kernel
theorem dX7_add_3 : decode cX7_add 3 = .ok (.iload_n 2, 1) := by decide +kernel
theorem dX7_add_4 : decode cX7_add 4 = .ok (.ifCond .lt 42, 3) := by decide +kernel
theorem dX7_add_7 : decode cX7_add 7 = .ok (.aload_n 0, 1) := by decide +kernel
theorem dX7_add_8 : decode cX7_add 8 = .ok (.getfield 15, 3) := by decide +kernel
theorem dX7_add_11 : decode cX7_add 11 = .ok (.sipush 700, 3) := by decide +kernel
theorem dX7_add_14 : decode cX7_add 14 = .ok (.if_icmp .ge 26, 3) := by decide +kernel
theorem dX7_add_17 : decode cX7_add 17 = .ok (.aload_n 0, 1) := by decide +kernel
theorem dX7_add_18 : decode cX7_add 18 = .ok (.getfield 9, 3) := by decide +kernel
theorem dX7_add_21 : decode cX7_add 21 = .ok (.aload_n 0, 1) := by decide +kernel
theorem dX7_add_22 : decode cX7_add 22 = .ok (.getfield 15, 3) := by decide +kernel
theorem dX7_add_25 : decode cX7_add 25 = .ok (.iload_n 1, 1) := by decide +kernel
theorem dX7_add_26 : decode cX7_add 26 = .ok (.iload_n 2, 1) := by decide +kernel
theorem dX7_add_27 : decode cX7_add 27 = .ok (.ishr, 1) := by decide +kernel
theorem dX7_add_28 : decode cX7_add 28 = .ok (.i2b, 1) := by decide +kernel
theorem dX7_add_29 : decode cX7_add 29 = .ok (.bastore, 1) := by decide +kernel
theorem dX7_add_30 : decode cX7_add 30 = .ok (.aload_n 0, 1) := by decide +kernel
theorem dX7_add_31 : decode cX7_add 31 = .ok (.dup, 1) := by decide +kernel
theorem dX7_add_32 : decode cX7_add 32 = .ok (.getfield 15, 3) := by decide +kernel
theorem dX7_add_35 : decode cX7_add 35 = .ok (.iconst 1, 1) := by decide +kernel
theorem dX7_add_36 : decode cX7_add 36 = .ok (.iadd, 1) := by decide +kernel
theorem dX7_add_37 : decode cX7_add 37 = .ok (.putfield 15, 3) := by decide +kernel
theorem dX7_add_40 : decode cX7_add 40 = .ok (.iinc 2 (-8), 3) := by decide +kernel
theorem dX7_add_43 : decode cX7_add 43 = .ok (.goto (-40), 3) := by decide +kernel
theorem dX7_add_46 : decode cX7_add 46 = .ok (.return_, 1) := by decide +kernel
theorem dX8_init_0 : decode cX8_init 0 = .ok (.aload_n 0, 1) := by decide +kernel
theorem dX8_init_1 : decode cX8_init 1 = .ok (.invokespecial 3, 3) := by decide +kernel
theorem dX8_init_4 : decode cX8_init 4 = .ok (.aload_n 0, 1) := by decide +kernel
theorem dX8_init_5 : decode cX8_init 5 = .ok (.new 9, 3) := by decide +kernel
theorem dX8_init_8 : decode cX8_init 8 = .ok (.dup, 1) := by decide +kernel
theorem dX8_init_9 : decode cX8_init 9 = .ok (.aload_n 1, 1) := by decide +kernel
theorem dX8_init_10 : decode cX8_init 10 = .ok (.invokespecial 11, 3) := by decide +kernel
theorem dX8_init_13 : decode cX8_init 13 = .ok (.putfield 14, 3) := by decide +kernel
theorem dX8_init_16 : decode cX8_init 16 = .ok (.aload_n 0, 1) := by decide +kernel
theorem dX8_init_17 : decode cX8_init 17 = .ok (.aload_n 2, 1) := by decide +kernel
theorem dX8_init_18 : decode cX8_init 18 = .ok (.putfield 20, 3) := by decide +kernel
theorem dX8_init_21 : decode cX8_init 21 = .ok (.return_, 1) := by decide +kernel
theorem dX8_tell_0 : decode cX8_tell 0 = .ok (.aload_n 0, 1) := by decide +kernel
theorem dX8_tell_1 : decode cX8_tell 1 = .ok (.aload_n 2, 1) := by decide +kernel
theorem dX8_tell_2 : decode cX8_tell 2 = .ok (.putfield 20, 3) := by decide +kernel
theorem dX8_tell_5 : decode cX8_tell 5 = .ok (.aload_n 0, 1) := by decide +kernel
theorem dX8_tell_6 : decode cX8_tell 6 = .ok (.getfield 20, 3) := by decide +kernel
theorem dX8_tell_9 : decode cX8_tell 9 = .ok (.invokevirtual 24, 3) := by decide +kernel
theorem dX8_tell_12 : decode cX8_tell 12 = .ok (.aload_n 0, 1) := by decide +kernel
theorem dX8_tell_13 : decode cX8_tell 13 = .ok (.iconst 0, 1) := by decide +kernel
theorem dX8_tell_14 : decode cX8_tell 14 = .ok (.putfield 29, 3) := by decide +kernel
theorem dX8_tell_17 : decode cX8_tell 17 = .ok (.aload_n 0, 1) := by decide +kernel
theorem dX8_tell_18 : decode cX8_tell 18 = .ok (.iconst 0, 1) := by decide +kernel
theorem dX8_tell_19 : decode cX8_tell 19 = .ok (.putfield 33, 3) := by decide +kernel
theorem dX8_tell_22 : decode cX8_tell 22 = .ok (.aload_n 0, 1) := by decide +kernel
theorem dX8_tell_23 : decode cX8_tell 23 = .ok (.iconst (-1), 1) := by decide +kernel
theorem dX8_tell_24 : decode cX8_tell 24 = .ok (.putfield 36, 3) := by decide +kernel
theorem dX8_tell_27 : decode cX8_tell 27 = .ok (.aload_n 0, 1) := by decide +kernel
theorem dX8_tell_28 : decode cX8_tell 28 = .ok (.getfield 14, 3) := by decide +kernel
theorem dX8_tell_31 : decode cX8_tell 31 = .ok (.iload_n 1, 1) := by decide +kernel
theorem dX8_tell_32 : decode cX8_tell 32 = .ok (.invokevirtual 39, 3) := by decide +kernel
theorem dX8_tell_35 : decode cX8_tell 35 = .ok (.aload_n 0, 1) := by decide +kernel
theorem dX8_tell_36 : decode cX8_tell 36 = .ok (.getfield 14, 3) := by decide +kernel
theorem dX8_tell_39 : decode cX8_tell 39 = .ok (.ldc 43, 2) := by decide +kernel
theorem dX8_tell_41 : decode cX8_tell 41 = .ok (.invokevirtual 45, 3) := by decide +kernel
theorem dX8_tell_44 : decode cX8_tell 44 = .ok (.ifCond .eq 32, 3) := by decide +kernel
theorem dX8_tell_47 : decode cX8_tell 47 = .ok (.aload_n 0, 1) := by decide +kernel
theorem dX8_tell_48 : decode cX8_tell 48 = .ok (.getfield 14, 3) := by decide +kernel
theorem dX8_tell_51 : decode cX8_tell 51 = .ok (.invokevirtual 49, 3) := by decide +kernel
theorem dX8_tell_54 : decode cX8_tell 54 = .ok (.aload_n 0, 1) := by decide +kernel
theorem dX8_tell_55 : decode cX8_tell 55 = .ok (.iconst 0, 1) := by decide +kernel
theorem dX8_tell_56 : decode cX8_tell 56 = .ok (.invokevirtual 52, 3) := by decide +kernel
theorem dX8_tell_59 : decode cX8_tell 59 = .ok (.ifCond .eq 12, 3) := by decide +kernel
theorem dX8_tell_62 : decode cX8_tell 62 = .ok (.aload_n 0, 1) := by decide +kernel
theorem dX8_tell_63 : decode cX8_tell 63 = .ok (.bipush 59, 2) := by decide +kernel
theorem dX8_tell_65 : decode cX8_tell 65 = .ok (.invokevirtual 56, 3) := by decide +kernel
theorem dX8_tell_68 : decode cX8_tell 68 = .ok (.ifCond .ne 8, 3) := by decide +kernel
theorem dX8_tell_71 : decode cX8_tell 71 = .ok (.aload_n 0, 1) := by decide +kernel
theorem dX8_tell_72 : decode cX8_tell 72 = .ok (.getfield 33, 3) := by decide +kernel
theorem dX8_tell_75 : decode cX8_tell 75 = .ok (.ireturn, 1) := by decide +kernel
theorem dX8_tell_76 : decode cX8_tell 76 = .ok (.iconst 0, 1) := by decide +kernel
theorem dX8_tell_77 : decode cX8_tell 77 = .ok (.istore_n 3, 1) := by decide +kernel
theorem dX8_tell_78 : decode cX8_tell 78 = .ok (.iload_n 3, 1) := by decide +kernel
theorem dX8_tell_79 : decode cX8_tell 79 = .ok (.sipush 700, 3) := by decide +kernel
theorem dX8_tell_82 : decode cX8_tell 82 = .ok (.if_icmp .ge 31, 3) := by decide +kernel
theorem dX8_tell_85 : decode cX8_tell 85 = .ok (.aload_n 0, 1) := by decide +kernel
theorem dX8_tell_86 : decode cX8_tell 86 = .ok (.getfield 14, 3) := by decide +kernel
theorem dX8_tell_89 : decode cX8_tell 89 = .ok (.getfield 60, 3) := by decide +kernel
theorem dX8_tell_92 : decode cX8_tell 92 = .ok (.ifCond .eq 21, 3) := by decide +kernel
theorem dX8_tell_95 : decode cX8_tell 95 = .ok (.aload_n 0, 1) := by decide +kernel
theorem dX8_tell_96 : decode cX8_tell 96 = .ok (.invokevirtual 63, 3) := by decide +kernel
theorem dX8_tell_99 : decode cX8_tell 99 = .ok (.ifCond .ne 8, 3) := by decide +kernel
theorem dX8_tell_102 : decode cX8_tell 102 = .ok (.aload_n 0, 1) := by decide +kernel
theorem dX8_tell_103 : decode cX8_tell 103 = .ok (.getfield 33, 3) := by decide +kernel
theorem dX8_tell_106 : decode cX8_tell 106 = .ok (.ireturn, 1) := by decide +kernel
theorem dX8_tell_107 : decode cX8_tell 107 = .ok (.iinc 3 1, 3) := by decide +kernel
theorem dX8_tell_110 : decode cX8_tell 110 = .ok (.goto (-32), 3) := by decide +kernel
theorem dX8_tell_113 : decode cX8_tell 113 = .ok (.aload_n 0, 1) := by decide +kernel
theorem dX8_tell_114 : decode cX8_tell 114 = .ok (.getfield 20, 3) := by decide +kernel
theorem dX8_tell_117 : decode cX8_tell 117 = .ok (.getfield 67, 3) := by decide +kernel
theorem dX8_tell_120 : decode cX8_tell 120 = .ok (.iconst 0, 1) := by decide +kernel
theorem dX8_tell_121 : decode cX8_tell 121 = .ok (.iaload, 1) := by decide +kernel
theorem dX8_tell_122 : decode cX8_tell 122 = .ok (.aload_n 0, 1) := by decide +kernel
theorem dX8_tell_123 : decode cX8_tell 123 = .ok (.getfield 20, 3) := by decide +kernel
theorem dX8_tell_126 : decode cX8_tell 126 = .ok (.getfield 67, 3) := by decide +kernel
theorem dX8_tell_129 : decode cX8_tell 129 = .ok (.iconst 1, 1) := by decide +kernel
theorem dX8_tell_130 : decode cX8_tell 130 = .ok (.iaload, 1) := by decide +kernel
theorem dX8_tell_131 : decode cX8_tell 131 = .ok (.iadd, 1) := by decide +kernel
theorem dX8_tell_132 : decode cX8_tell 132 = .ok (.aload_n 0, 1) := by decide +kernel
theorem dX8_tell_133 : decode cX8_tell 133 = .ok (.getfield 20, 3) := by decide +kernel
theorem dX8_tell_136 : decode cX8_tell 136 = .ok (.getfield 67, 3) := by decide +kernel
theorem dX8_tell_139 : decode cX8_tell 139 = .ok (.iconst 2, 1) := by decide +kernel
theorem dX8_tell_140 : decode cX8_tell 140 = .ok (.iaload, 1) := by decide +kernel
theorem dX8_tell_141 : decode cX8_tell 141 = .ok (.iadd, 1) := by decide +kernel
theorem dX8_tell_142 : decode cX8_tell 142 = .ok (.aload_n 0, 1) := by decide +kernel
theorem dX8_tell_143 : decode cX8_tell 143 = .ok (.getfield 20, 3) := by decide +kernel
theorem dX8_tell_146 : decode cX8_tell 146 = .ok (.getfield 67, 3) := by decide +kernel
theorem dX8_tell_149 : decode cX8_tell 149 = .ok (.iconst 3, 1) := by decide +kernel
theorem dX8_tell_150 : decode cX8_tell 150 = .ok (.iaload, 1) := by decide +kernel
theorem dX8_tell_151 : decode cX8_tell 151 = .ok (.iadd, 1) := by decide +kernel
theorem dX8_tell_152 : decode cX8_tell 152 = .ok (.ifCond .ne 10, 3) := by decide +kernel
theorem dX8_tell_155 : decode cX8_tell 155 = .ok (.aload_n 0, 1) := by decide +kernel
theorem dX8_tell_156 : decode cX8_tell 156 = .ok (.bipush 6, 2) := by decide +kernel
theorem dX8_tell_158 : decode cX8_tell 158 = .ok (.invokevirtual 71, 3) := by decide +kernel
theorem dX8_tell_161 : decode cX8_tell 161 = .ok (.pop, 1) := by decide +kernel
theorem dX8_tell_162 : decode cX8_tell 162 = .ok (.aload_n 0, 1) := by decide +kernel
theorem dX8_tell_163 : decode cX8_tell 163 = .ok (.getfield 33, 3) := by decide +kernel
theorem dX8_tell_166 : decode cX8_tell 166 = .ok (.ireturn, 1) := by decide +kernel
theorem dX8_refuse_0 : decode cX8_refuse 0 = .ok (.aload_n 0, 1) := by decide +kernel
theorem dX8_refuse_1 : decode cX8_refuse 1 = .ok (.iload_n 1, 1) := by decide +kernel
theorem dX8_refuse_2 : decode cX8_refuse 2 = .ok (.putfield 33, 3) := by decide +kernel
theorem dX8_refuse_5 : decode cX8_refuse 5 = .ok (.aload_n 0, 1) := by decide +kernel
theorem dX8_refuse_6 : decode cX8_refuse 6 = .ok (.aload_n 0, 1) := by decide +kernel
theorem dX8_refuse_7 : decode cX8_refuse 7 = .ok (.getfield 14, 3) := by decide +kernel
theorem dX8_refuse_10 : decode cX8_refuse 10 = .ok (.getfield 74, 3) := by decide +kernel
theorem dX8_refuse_13 : decode cX8_refuse 13 = .ok (.putfield 36, 3) := by decide +kernel
theorem dX8_refuse_16 : decode cX8_refuse 16 = .ok (.iconst 0, 1) := by decide +kernel
theorem dX8_refuse_17 : decode cX8_refuse 17 = .ok (.ireturn, 1) := by decide +kernel
theorem dX8_readLine_0 : decode cX8_readLine 0 = .ok (.aload_n 0, 1) := by decide +kernel
theorem dX8_readLine_1 : decode cX8_readLine 1 = .ok (.invokevirtual 77, 3) := by decide +kernel
theorem dX8_readLine_4 : decode cX8_readLine 4 = .ok (.istore_n 1, 1) := by decide +kernel
theorem dX8_readLine_5 : decode cX8_readLine 5 = .ok (.iload_n 1, 1) := by decide +kernel
theorem dX8_readLine_6 : decode cX8_readLine 6 = .ok (.iconst (-1), 1) := by decide +kernel
theorem dX8_readLine_7 : decode cX8_readLine 7 = .ok (.if_icmp .eq 34, 3) := by decide +kernel
theorem dX8_readLine_10 : decode cX8_readLine 10 = .ok (.aload_n 0, 1) := by decide +kernel
theorem dX8_readLine_11 : decode cX8_readLine 11 = .ok (.iload_n 1, 1) := by decide +kernel
theorem dX8_readLine_12 : decode cX8_readLine 12 = .ok (.invokevirtual 81, 3) := by decide +kernel
theorem dX8_readLine_15 : decode cX8_readLine 15 = .ok (.ifCond .eq 24, 3) := by decide +kernel
theorem dX8_readLine_18 : decode cX8_readLine 18 = .ok (.aload_n 0, 1) := by decide +kernel
theorem dX8_readLine_19 : decode cX8_readLine 19 = .ok (.iload_n 1, 1) := by decide +kernel
theorem dX8_readLine_20 : decode cX8_readLine 20 = .ok (.invokevirtual 52, 3) := by decide +kernel
theorem dX8_readLine_23 : decode cX8_readLine 23 = .ok (.ifCond .eq 16, 3) := by decide +kernel
theorem dX8_readLine_26 : decode cX8_readLine 26 = .ok (.aload_n 0, 1) := by decide +kernel
theorem dX8_readLine_27 : decode cX8_readLine 27 = .ok (.bipush 59, 2) := by decide +kernel
theorem dX8_readLine_29 : decode cX8_readLine 29 = .ok (.invokevirtual 56, 3) := by decide +kernel
theorem dX8_readLine_32 : decode cX8_readLine 32 = .ok (.ifCond .eq 7, 3) := by decide +kernel
theorem dX8_readLine_35 : decode cX8_readLine 35 = .ok (.iconst 1, 1) := by decide +kernel
theorem dX8_readLine_36 : decode cX8_readLine 36 = .ok (.goto 4, 3) := by decide +kernel
theorem dX8_readLine_39 : decode cX8_readLine 39 = .ok (.iconst 0, 1) := by decide +kernel
theorem dX8_readLine_40 : decode cX8_readLine 40 = .ok (.ireturn, 1) := by decide +kernel
theorem dX8_readLine_41 : decode cX8_readLine 41 = .ok (.aload_n 0, 1) := by decide +kernel
theorem dX8_readLine_42 : decode cX8_readLine 42 = .ok (.getfield 14, 3) := by decide +kernel
theorem dX8_readLine_45 : decode cX8_readLine 45 = .ok (.ldc 84, 2) := by decide +kernel
theorem dX8_readLine_47 : decode cX8_readLine 47 = .ok (.invokevirtual 45, 3) := by decide +kernel
theorem dX8_readLine_50 : decode cX8_readLine 50 = .ok (.ifCond .eq 42, 3) := by decide +kernel
theorem dX8_readLine_53 : decode cX8_readLine 53 = .ok (.aload_n 0, 1) := by decide +kernel
theorem dX8_readLine_54 : decode cX8_readLine 54 = .ok (.bipush 8, 2) := by decide +kernel
theorem dX8_readLine_56 : decode cX8_readLine 56 = .ok (.invokevirtual 81, 3) := by decide +kernel
theorem dX8_readLine_59 : decode cX8_readLine 59 = .ok (.ifCond .eq 31, 3) := by decide +kernel
theorem dX8_readLine_62 : decode cX8_readLine 62 = .ok (.aload_n 0, 1) := by decide +kernel
theorem dX8_readLine_63 : decode cX8_readLine 63 = .ok (.aload_n 0, 1) := by decide +kernel
theorem dX8_readLine_64 : decode cX8_readLine 64 = .ok (.getfield 20, 3) := by decide +kernel
theorem dX8_readLine_67 : decode cX8_readLine 67 = .ok (.getfield 86, 3) := by decide +kernel
theorem dX8_readLine_70 : decode cX8_readLine 70 = .ok (.iconst 0, 1) := by decide +kernel
theorem dX8_readLine_71 : decode cX8_readLine 71 = .ok (.invokevirtual 90, 3) := by decide +kernel
theorem dX8_readLine_74 : decode cX8_readLine 74 = .ok (.ifCond .eq 16, 3) := by decide +kernel
theorem dX8_readLine_77 : decode cX8_readLine 77 = .ok (.aload_n 0, 1) := by decide +kernel
theorem dX8_readLine_78 : decode cX8_readLine 78 = .ok (.bipush 59, 2) := by decide +kernel
theorem dX8_readLine_80 : decode cX8_readLine 80 = .ok (.invokevirtual 56, 3) := by decide +kernel
theorem dX8_readLine_83 : decode cX8_readLine 83 = .ok (.ifCond .eq 7, 3) := by decide +kernel
theorem dX8_readLine_86 : decode cX8_readLine 86 = .ok (.iconst 1, 1) := by decide +kernel
theorem dX8_readLine_87 : decode cX8_readLine 87 = .ok (.goto 4, 3) := by decide +kernel
theorem dX8_readLine_90 : decode cX8_readLine 90 = .ok (.iconst 0, 1) := by decide +kernel
theorem dX8_readLine_91 : decode cX8_readLine 91 = .ok (.ireturn, 1) := by decide +kernel
theorem dX8_readLine_92 : decode cX8_readLine 92 = .ok (.aload_n 0, 1) := by decide +kernel
theorem dX8_readLine_93 : decode cX8_readLine 93 = .ok (.getfield 14, 3) := by decide +kernel
theorem dX8_readLine_96 : decode cX8_readLine 96 = .ok (.ldc 94, 2) := by decide +kernel
theorem dX8_readLine_98 : decode cX8_readLine 98 = .ok (.invokevirtual 45, 3) := by decide +kernel
theorem dX8_readLine_101 : decode cX8_readLine 101 = .ok (.ifCond .eq 42, 3) := by decide +kernel
theorem dX8_readLine_104 : decode cX8_readLine 104 = .ok (.aload_n 0, 1) := by decide +kernel
theorem dX8_readLine_105 : decode cX8_readLine 105 = .ok (.bipush 9, 2) := by decide +kernel
theorem dX8_readLine_107 : decode cX8_readLine 107 = .ok (.invokevirtual 81, 3) := by decide +kernel
theorem dX8_readLine_110 : decode cX8_readLine 110 = .ok (.ifCond .eq 31, 3) := by decide +kernel
theorem dX8_readLine_113 : decode cX8_readLine 113 = .ok (.aload_n 0, 1) := by decide +kernel
theorem dX8_readLine_114 : decode cX8_readLine 114 = .ok (.aload_n 0, 1) := by decide +kernel
theorem dX8_readLine_115 : decode cX8_readLine 115 = .ok (.getfield 20, 3) := by decide +kernel
theorem dX8_readLine_118 : decode cX8_readLine 118 = .ok (.getfield 96, 3) := by decide +kernel
theorem dX8_readLine_121 : decode cX8_readLine 121 = .ok (.iconst 0, 1) := by decide +kernel
theorem dX8_readLine_122 : decode cX8_readLine 122 = .ok (.invokevirtual 90, 3) := by decide +kernel
theorem dX8_readLine_125 : decode cX8_readLine 125 = .ok (.ifCond .eq 16, 3) := by decide +kernel
theorem dX8_readLine_128 : decode cX8_readLine 128 = .ok (.aload_n 0, 1) := by decide +kernel
theorem dX8_readLine_129 : decode cX8_readLine 129 = .ok (.bipush 59, 2) := by decide +kernel
theorem dX8_readLine_131 : decode cX8_readLine 131 = .ok (.invokevirtual 56, 3) := by decide +kernel
theorem dX8_readLine_134 : decode cX8_readLine 134 = .ok (.ifCond .eq 7, 3) := by decide +kernel
theorem dX8_readLine_137 : decode cX8_readLine 137 = .ok (.iconst 1, 1) := by decide +kernel
theorem dX8_readLine_138 : decode cX8_readLine 138 = .ok (.goto 4, 3) := by decide +kernel
theorem dX8_readLine_141 : decode cX8_readLine 141 = .ok (.iconst 0, 1) := by decide +kernel
theorem dX8_readLine_142 : decode cX8_readLine 142 = .ok (.ireturn, 1) := by decide +kernel
theorem dX8_readLine_143 : decode cX8_readLine 143 = .ok (.aload_n 0, 1) := by decide +kernel
theorem dX8_readLine_144 : decode cX8_readLine 144 = .ok (.getfield 14, 3) := by decide +kernel
theorem dX8_readLine_147 : decode cX8_readLine 147 = .ok (.ldc 99, 2) := by decide +kernel
theorem dX8_readLine_149 : decode cX8_readLine 149 = .ok (.invokevirtual 45, 3) := by decide +kernel
theorem dX8_readLine_152 : decode cX8_readLine 152 = .ok (.ifCond .eq 25, 3) := by decide +kernel
theorem dX8_readLine_155 : decode cX8_readLine 155 = .ok (.aload_n 0, 1) := by decide +kernel
theorem dX8_readLine_156 : decode cX8_readLine 156 = .ok (.invokevirtual 101, 3) := by decide +kernel
theorem dX8_readLine_159 : decode cX8_readLine 159 = .ok (.ifCond .eq 16, 3) := by decide +kernel
theorem dX8_readLine_162 : decode cX8_readLine 162 = .ok (.aload_n 0, 1) := by decide +kernel
theorem dX8_readLine_163 : decode cX8_readLine 163 = .ok (.bipush 59, 2) := by decide +kernel
theorem dX8_readLine_165 : decode cX8_readLine 165 = .ok (.invokevirtual 56, 3) := by decide +kernel
theorem dX8_readLine_168 : decode cX8_readLine 168 = .ok (.ifCond .eq 7, 3) := by decide +kernel
theorem dX8_readLine_171 : decode cX8_readLine 171 = .ok (.iconst 1, 1) := by decide +kernel
theorem dX8_readLine_172 : decode cX8_readLine 172 = .ok (.goto 4, 3) := by decide +kernel
theorem dX8_readLine_175 : decode cX8_readLine 175 = .ok (.iconst 0, 1) := by decide +kernel
theorem dX8_readLine_176 : decode cX8_readLine 176 = .ok (.ireturn, 1) := by decide +kernel
theorem dX8_readLine_177 : decode cX8_readLine 177 = .ok (.aload_n 0, 1) := by decide +kernel
theorem dX8_readLine_178 : decode cX8_readLine 178 = .ok (.getfield 14, 3) := by decide +kernel
theorem dX8_readLine_181 : decode cX8_readLine 181 = .ok (.ldc 104, 2) := by decide +kernel
theorem dX8_readLine_183 : decode cX8_readLine 183 = .ok (.invokevirtual 45, 3) := by decide +kernel
theorem dX8_readLine_186 : decode cX8_readLine 186 = .ok (.ifCond .eq 25, 3) := by decide +kernel
theorem dX8_readLine_189 : decode cX8_readLine 189 = .ok (.aload_n 0, 1) := by decide +kernel
theorem dX8_readLine_190 : decode cX8_readLine 190 = .ok (.invokevirtual 106, 3) := by decide +kernel
theorem dX8_readLine_193 : decode cX8_readLine 193 = .ok (.ifCond .eq 16, 3) := by decide +kernel
theorem dX8_readLine_196 : decode cX8_readLine 196 = .ok (.aload_n 0, 1) := by decide +kernel
theorem dX8_readLine_197 : decode cX8_readLine 197 = .ok (.bipush 59, 2) := by decide +kernel
theorem dX8_readLine_199 : decode cX8_readLine 199 = .ok (.invokevirtual 56, 3) := by decide +kernel
theorem dX8_readLine_202 : decode cX8_readLine 202 = .ok (.ifCond .eq 7, 3) := by decide +kernel
theorem dX8_readLine_205 : decode cX8_readLine 205 = .ok (.iconst 1, 1) := by decide +kernel
theorem dX8_readLine_206 : decode cX8_readLine 206 = .ok (.goto 4, 3) := by decide +kernel
theorem dX8_readLine_209 : decode cX8_readLine 209 = .ok (.iconst 0, 1) := by decide +kernel
theorem dX8_readLine_210 : decode cX8_readLine 210 = .ok (.ireturn, 1) := by decide +kernel
theorem dX8_readLine_211 : decode cX8_readLine 211 = .ok (.aload_n 0, 1) := by decide +kernel
theorem dX8_readLine_212 : decode cX8_readLine 212 = .ok (.getfield 14, 3) := by decide +kernel
theorem dX8_readLine_215 : decode cX8_readLine 215 = .ok (.ldc 109, 2) := by decide +kernel
theorem dX8_readLine_217 : decode cX8_readLine 217 = .ok (.invokevirtual 45, 3) := by decide +kernel
theorem dX8_readLine_220 : decode cX8_readLine 220 = .ok (.ifCond .eq 25, 3) := by decide +kernel
theorem dX8_readLine_223 : decode cX8_readLine 223 = .ok (.aload_n 0, 1) := by decide +kernel
theorem dX8_readLine_224 : decode cX8_readLine 224 = .ok (.invokevirtual 111, 3) := by decide +kernel
theorem dX8_readLine_227 : decode cX8_readLine 227 = .ok (.ifCond .eq 16, 3) := by decide +kernel
theorem dX8_readLine_230 : decode cX8_readLine 230 = .ok (.aload_n 0, 1) := by decide +kernel
theorem dX8_readLine_231 : decode cX8_readLine 231 = .ok (.bipush 59, 2) := by decide +kernel
theorem dX8_readLine_233 : decode cX8_readLine 233 = .ok (.invokevirtual 56, 3) := by decide +kernel
theorem dX8_readLine_236 : decode cX8_readLine 236 = .ok (.ifCond .eq 7, 3) := by decide +kernel
theorem dX8_readLine_239 : decode cX8_readLine 239 = .ok (.iconst 1, 1) := by decide +kernel
theorem dX8_readLine_240 : decode cX8_readLine 240 = .ok (.goto 4, 3) := by decide +kernel
theorem dX8_readLine_243 : decode cX8_readLine 243 = .ok (.iconst 0, 1) := by decide +kernel
theorem dX8_readLine_244 : decode cX8_readLine 244 = .ok (.ireturn, 1) := by decide +kernel
theorem dX8_readLine_245 : decode cX8_readLine 245 = .ok (.aload_n 0, 1) := by decide +kernel
theorem dX8_readLine_246 : decode cX8_readLine 246 = .ok (.getfield 14, 3) := by decide +kernel
theorem dX8_readLine_249 : decode cX8_readLine 249 = .ok (.ldc 114, 2) := by decide +kernel
theorem dX8_readLine_251 : decode cX8_readLine 251 = .ok (.invokevirtual 45, 3) := by decide +kernel
theorem dX8_readLine_254 : decode cX8_readLine 254 = .ok (.ifCond .eq 25, 3) := by decide +kernel
theorem dX8_readLine_257 : decode cX8_readLine 257 = .ok (.aload_n 0, 1) := by decide +kernel
theorem dX8_readLine_258 : decode cX8_readLine 258 = .ok (.invokevirtual 116, 3) := by decide +kernel
theorem dX8_readLine_261 : decode cX8_readLine 261 = .ok (.ifCond .eq 16, 3) := by decide +kernel
theorem dX8_readLine_264 : decode cX8_readLine 264 = .ok (.aload_n 0, 1) := by decide +kernel
theorem dX8_readLine_265 : decode cX8_readLine 265 = .ok (.bipush 59, 2) := by decide +kernel
theorem dX8_readLine_267 : decode cX8_readLine 267 = .ok (.invokevirtual 56, 3) := by decide +kernel
theorem dX8_readLine_270 : decode cX8_readLine 270 = .ok (.ifCond .eq 7, 3) := by decide +kernel
theorem dX8_readLine_273 : decode cX8_readLine 273 = .ok (.iconst 1, 1) := by decide +kernel
theorem dX8_readLine_274 : decode cX8_readLine 274 = .ok (.goto 4, 3) := by decide +kernel
theorem dX8_readLine_277 : decode cX8_readLine 277 = .ok (.iconst 0, 1) := by decide +kernel
theorem dX8_readLine_278 : decode cX8_readLine 278 = .ok (.ireturn, 1) := by decide +kernel
theorem dX8_readLine_279 : decode cX8_readLine 279 = .ok (.aload_n 0, 1) := by decide +kernel
theorem dX8_readLine_280 : decode cX8_readLine 280 = .ok (.iconst 1, 1) := by decide +kernel
theorem dX8_readLine_281 : decode cX8_readLine 281 = .ok (.invokevirtual 71, 3) := by decide +kernel
theorem dX8_readLine_284 : decode cX8_readLine 284 = .ok (.ireturn, 1) := by decide +kernel
theorem dX8_settingNamed_0 : decode cX8_settingNamed 0 = .ok (.aload_n 0, 1) := by decide +kernel
theorem dX8_settingNamed_1 : decode cX8_settingNamed 1 = .ok (.getfield 14, 3) := by decide +kernel
theorem dX8_settingNamed_4 : decode cX8_settingNamed 4 = .ok (.ldc 119, 2) := by decide +kernel
theorem dX8_settingNamed_6 : decode cX8_settingNamed 6 = .ok (.invokevirtual 45, 3) := by decide +kernel
theorem dX8_settingNamed_9 : decode cX8_settingNamed 9 = .ok (.ifCond .eq 5, 3) := by decide +kernel
theorem dX8_settingNamed_12 : decode cX8_settingNamed 12 = .ok (.iconst 1, 1) := by decide +kernel
theorem dX8_settingNamed_13 : decode cX8_settingNamed 13 = .ok (.ireturn, 1) := by decide +kernel
theorem dX8_settingNamed_14 : decode cX8_settingNamed 14 = .ok (.aload_n 0, 1) := by decide +kernel
theorem dX8_settingNamed_15 : decode cX8_settingNamed 15 = .ok (.getfield 14, 3) := by decide +kernel
theorem dX8_settingNamed_18 : decode cX8_settingNamed 18 = .ok (.ldc 121, 2) := by decide +kernel
theorem dX8_settingNamed_20 : decode cX8_settingNamed 20 = .ok (.invokevirtual 45, 3) := by decide +kernel
theorem dX8_settingNamed_23 : decode cX8_settingNamed 23 = .ok (.ifCond .eq 5, 3) := by decide +kernel
theorem dX8_settingNamed_26 : decode cX8_settingNamed 26 = .ok (.iconst 2, 1) := by decide +kernel
theorem dX8_settingNamed_27 : decode cX8_settingNamed 27 = .ok (.ireturn, 1) := by decide +kernel
theorem dX8_settingNamed_28 : decode cX8_settingNamed 28 = .ok (.aload_n 0, 1) := by decide +kernel
theorem dX8_settingNamed_29 : decode cX8_settingNamed 29 = .ok (.getfield 14, 3) := by decide +kernel
theorem dX8_settingNamed_32 : decode cX8_settingNamed 32 = .ok (.ldc 123, 2) := by decide +kernel
theorem dX8_settingNamed_34 : decode cX8_settingNamed 34 = .ok (.invokevirtual 45, 3) := by decide +kernel
theorem dX8_settingNamed_37 : decode cX8_settingNamed 37 = .ok (.ifCond .eq 5, 3) := by decide +kernel
theorem dX8_settingNamed_40 : decode cX8_settingNamed 40 = .ok (.iconst 3, 1) := by decide +kernel
theorem dX8_settingNamed_41 : decode cX8_settingNamed 41 = .ok (.ireturn, 1) := by decide +kernel
theorem dX8_settingNamed_42 : decode cX8_settingNamed 42 = .ok (.aload_n 0, 1) := by decide +kernel
theorem dX8_settingNamed_43 : decode cX8_settingNamed 43 = .ok (.getfield 14, 3) := by decide +kernel
theorem dX8_settingNamed_46 : decode cX8_settingNamed 46 = .ok (.ldc 125, 2) := by decide +kernel
theorem dX8_settingNamed_48 : decode cX8_settingNamed 48 = .ok (.invokevirtual 45, 3) := by decide +kernel
theorem dX8_settingNamed_51 : decode cX8_settingNamed 51 = .ok (.ifCond .eq 5, 3) := by decide +kernel
theorem dX8_settingNamed_54 : decode cX8_settingNamed 54 = .ok (.iconst 4, 1) := by decide +kernel
theorem dX8_settingNamed_55 : decode cX8_settingNamed 55 = .ok (.ireturn, 1) := by decide +kernel
theorem dX8_settingNamed_56 : decode cX8_settingNamed 56 = .ok (.aload_n 0, 1) := by decide +kernel
theorem dX8_settingNamed_57 : decode cX8_settingNamed 57 = .ok (.getfield 14, 3) := by decide +kernel
theorem dX8_settingNamed_60 : decode cX8_settingNamed 60 = .ok (.ldc 127, 2) := by decide +kernel
theorem dX8_settingNamed_62 : decode cX8_settingNamed 62 = .ok (.invokevirtual 45, 3) := by decide +kernel
theorem dX8_settingNamed_65 : decode cX8_settingNamed 65 = .ok (.ifCond .eq 5, 3) := by decide +kernel
theorem dX8_settingNamed_68 : decode cX8_settingNamed 68 = .ok (.iconst 5, 1) := by decide +kernel
theorem dX8_settingNamed_69 : decode cX8_settingNamed 69 = .ok (.ireturn, 1) := by decide +kernel
theorem dX8_settingNamed_70 : decode cX8_settingNamed 70 = .ok (.aload_n 0, 1) := by decide +kernel
theorem dX8_settingNamed_71 : decode cX8_settingNamed 71 = .ok (.getfield 14, 3) := by decide +kernel
theorem dX8_settingNamed_74 : decode cX8_settingNamed 74 = .ok (.ldc 129, 2) := by decide +kernel
theorem dX8_settingNamed_76 : decode cX8_settingNamed 76 = .ok (.invokevirtual 45, 3) := by decide +kernel
theorem dX8_settingNamed_79 : decode cX8_settingNamed 79 = .ok (.ifCond .eq 8, 3) := by decide +kernel
theorem dX8_settingNamed_82 : decode cX8_settingNamed 82 = .ok (.bipush 6, 2) := by decide +kernel
theorem dX8_settingNamed_84 : decode cX8_settingNamed 84 = .ok (.goto 4, 3) := by decide +kernel
theorem dX8_settingNamed_87 : decode cX8_settingNamed 87 = .ok (.iconst (-1), 1) := by decide +kernel
theorem dX8_settingNamed_88 : decode cX8_settingNamed 88 = .ok (.ireturn, 1) := by decide +kernel
theorem dX8_readSettings_0 : decode cX8_readSettings 0 = .ok (.iload_n 1, 1) := by decide +kernel
theorem dX8_readSettings_1 : decode cX8_readSettings 1 = .ok (.bipush 6, 2) := by decide +kernel
theorem dX8_readSettings_3 : decode cX8_readSettings 3 = .ok (.if_icmp .ne 8, 3) := by decide +kernel
theorem dX8_readSettings_6 : decode cX8_readSettings 6 = .ok (.bipush 7, 2) := by decide +kernel
theorem dX8_readSettings_8 : decode cX8_readSettings 8 = .ok (.goto 4, 3) := by decide +kernel
theorem dX8_readSettings_11 : decode cX8_readSettings 11 = .ok (.iload_n 1, 1) := by decide +kernel
theorem dX8_readSettings_12 : decode cX8_readSettings 12 = .ok (.istore_n 2, 1) := by decide +kernel
theorem dX8_readSettings_13 : decode cX8_readSettings 13 = .ok (.iload_n 1, 1) := by decide +kernel
theorem dX8_readSettings_14 : decode cX8_readSettings 14 = .ok (.istore_n 3, 1) := by decide +kernel
theorem dX8_readSettings_15 : decode cX8_readSettings 15 = .ok (.iload_n 3, 1) := by decide +kernel
theorem dX8_readSettings_16 : decode cX8_readSettings 16 = .ok (.iload_n 2, 1) := by decide +kernel
theorem dX8_readSettings_17 : decode cX8_readSettings 17 = .ok (.if_icmp .gt 68, 3) := by decide +kernel
theorem dX8_readSettings_20 : decode cX8_readSettings 20 = .ok (.iload_n 3, 1) := by decide +kernel
theorem dX8_readSettings_21 : decode cX8_readSettings 21 = .ok (.bipush 8, 2) := by decide +kernel
theorem dX8_readSettings_23 : decode cX8_readSettings 23 = .ok (.if_icmp .ge 62, 3) := by decide +kernel
theorem dX8_readSettings_26 : decode cX8_readSettings 26 = .ok (.iload_n 3, 1) := by decide +kernel
theorem dX8_readSettings_27 : decode cX8_readSettings 27 = .ok (.iconst 5, 1) := by decide +kernel
theorem dX8_readSettings_28 : decode cX8_readSettings 28 = .ok (.if_icmp .ne 15, 3) := by decide +kernel
theorem dX8_readSettings_31 : decode cX8_readSettings 31 = .ok (.aload_n 0, 1) := by decide +kernel
theorem dX8_readSettings_32 : decode cX8_readSettings 32 = .ok (.getfield 20, 3) := by decide +kernel
theorem dX8_readSettings_35 : decode cX8_readSettings 35 = .ok (.invokevirtual 131, 3) := by decide +kernel
theorem dX8_readSettings_38 : decode cX8_readSettings 38 = .ok (.iconst 1, 1) := by decide +kernel
theorem dX8_readSettings_39 : decode cX8_readSettings 39 = .ok (.isub, 1) := by decide +kernel
theorem dX8_readSettings_40 : decode cX8_readSettings 40 = .ok (.goto 8, 3) := by decide +kernel
theorem dX8_readSettings_43 : decode cX8_readSettings 43 = .ok (.getstatic 134, 3) := by decide +kernel
theorem dX8_readSettings_46 : decode cX8_readSettings 46 = .ok (.iload_n 3, 1) := by decide +kernel
theorem dX8_readSettings_47 : decode cX8_readSettings 47 = .ok (.iaload, 1) := by decide +kernel
theorem dX8_readSettings_48 : decode cX8_readSettings 48 = .ok (.istore 4, 2) := by decide +kernel
theorem dX8_readSettings_50 : decode cX8_readSettings 50 = .ok (.aload_n 0, 1) := by decide +kernel
theorem dX8_readSettings_51 : decode cX8_readSettings 51 = .ok (.getstatic 137, 3) := by decide +kernel
theorem dX8_readSettings_54 : decode cX8_readSettings 54 = .ok (.iload_n 3, 1) := by decide +kernel
theorem dX8_readSettings_55 : decode cX8_readSettings 55 = .ok (.iaload, 1) := by decide +kernel
theorem dX8_readSettings_56 : decode cX8_readSettings 56 = .ok (.iload 4, 2) := by decide +kernel
theorem dX8_readSettings_58 : decode cX8_readSettings 58 = .ok (.invokevirtual 140, 3) := by decide +kernel
theorem dX8_readSettings_61 : decode cX8_readSettings 61 = .ok (.ifCond .ne 5, 3) := by decide +kernel
theorem dX8_readSettings_64 : decode cX8_readSettings 64 = .ok (.iconst 0, 1) := by decide +kernel
theorem dX8_readSettings_65 : decode cX8_readSettings 65 = .ok (.ireturn, 1) := by decide +kernel
theorem dX8_readSettings_66 : decode cX8_readSettings 66 = .ok (.aload_n 0, 1) := by decide +kernel
theorem dX8_readSettings_67 : decode cX8_readSettings 67 = .ok (.getfield 20, 3) := by decide +kernel
theorem dX8_readSettings_70 : decode cX8_readSettings 70 = .ok (.getfield 144, 3) := by decide +kernel
theorem dX8_readSettings_73 : decode cX8_readSettings 73 = .ok (.iload_n 3, 1) := by decide +kernel
theorem dX8_readSettings_74 : decode cX8_readSettings 74 = .ok (.aload_n 0, 1) := by decide +kernel
theorem dX8_readSettings_75 : decode cX8_readSettings 75 = .ok (.getfield 147, 3) := by decide +kernel
theorem dX8_readSettings_78 : decode cX8_readSettings 78 = .ok (.iastore, 1) := by decide +kernel
theorem dX8_readSettings_79 : decode cX8_readSettings 79 = .ok (.iinc 3 1, 3) := by decide +kernel
theorem dX8_readSettings_82 : decode cX8_readSettings 82 = .ok (.goto (-67), 3) := by decide +kernel
theorem dX8_readSettings_85 : decode cX8_readSettings 85 = .ok (.iconst 1, 1) := by decide +kernel
theorem dX8_readSettings_86 : decode cX8_readSettings 86 = .ok (.ireturn, 1) := by decide +kernel
theorem dX8_readHole_0 : decode cX8_readHole 0 = .ok (.aload_n 0, 1) := by decide +kernel
theorem dX8_readHole_1 : decode cX8_readHole 1 = .ok (.getfield 20, 3) := by decide +kernel
theorem dX8_readHole_4 : decode cX8_readHole 4 = .ok (.getfield 150, 3) := by decide +kernel
theorem dX8_readHole_7 : decode cX8_readHole 7 = .ok (.getfield 154, 3) := by decide +kernel
theorem dX8_readHole_10 : decode cX8_readHole 10 = .ok (.bipush 6, 2) := by decide +kernel
theorem dX8_readHole_12 : decode cX8_readHole 12 = .ok (.if_icmp .lt 9, 3) := by decide +kernel
theorem dX8_readHole_15 : decode cX8_readHole 15 = .ok (.aload_n 0, 1) := by decide +kernel
theorem dX8_readHole_16 : decode cX8_readHole 16 = .ok (.iconst 2, 1) := by decide +kernel
theorem dX8_readHole_17 : decode cX8_readHole 17 = .ok (.invokevirtual 71, 3) := by decide +kernel
theorem dX8_readHole_20 : decode cX8_readHole 20 = .ok (.ireturn, 1) := by decide +kernel
theorem dX8_readHole_21 : decode cX8_readHole 21 = .ok (.aload_n 0, 1) := by decide +kernel
theorem dX8_readHole_22 : decode cX8_readHole 22 = .ok (.getfield 14, 3) := by decide +kernel
theorem dX8_readHole_25 : decode cX8_readHole 25 = .ok (.invokevirtual 49, 3) := by decide +kernel
theorem dX8_readHole_28 : decode cX8_readHole 28 = .ok (.aload_n 0, 1) := by decide +kernel
theorem dX8_readHole_29 : decode cX8_readHole 29 = .ok (.iconst 0, 1) := by decide +kernel
theorem dX8_readHole_30 : decode cX8_readHole 30 = .ok (.aload_n 0, 1) := by decide +kernel
theorem dX8_readHole_31 : decode cX8_readHole 31 = .ok (.getfield 20, 3) := by decide +kernel
theorem dX8_readHole_34 : decode cX8_readHole 34 = .ok (.invokevirtual 131, 3) := by decide +kernel
theorem dX8_readHole_37 : decode cX8_readHole 37 = .ok (.iconst 1, 1) := by decide +kernel
theorem dX8_readHole_38 : decode cX8_readHole 38 = .ok (.isub, 1) := by decide +kernel
theorem dX8_readHole_39 : decode cX8_readHole 39 = .ok (.invokevirtual 140, 3) := by decide +kernel
theorem dX8_readHole_42 : decode cX8_readHole 42 = .ok (.ifCond .ne 5, 3) := by decide +kernel
theorem dX8_readHole_45 : decode cX8_readHole 45 = .ok (.iconst 0, 1) := by decide +kernel
theorem dX8_readHole_46 : decode cX8_readHole 46 = .ok (.ireturn, 1) := by decide +kernel
theorem dX8_readHole_47 : decode cX8_readHole 47 = .ok (.aload_n 0, 1) := by decide +kernel
theorem dX8_readHole_48 : decode cX8_readHole 48 = .ok (.getfield 147, 3) := by decide +kernel
theorem dX8_readHole_51 : decode cX8_readHole 51 = .ok (.istore_n 1, 1) := by decide +kernel
theorem dX8_readHole_52 : decode cX8_readHole 52 = .ok (.aload_n 0, 1) := by decide +kernel
theorem dX8_readHole_53 : decode cX8_readHole 53 = .ok (.invokevirtual 159, 3) := by decide +kernel
theorem dX8_readHole_56 : decode cX8_readHole 56 = .ok (.istore_n 2, 1) := by decide +kernel
theorem dX8_readHole_57 : decode cX8_readHole 57 = .ok (.iload_n 2, 1) := by decide +kernel
theorem dX8_readHole_58 : decode cX8_readHole 58 = .ok (.iconst (-1), 1) := by decide +kernel
theorem dX8_readHole_59 : decode cX8_readHole 59 = .ok (.if_icmp .ne 9, 3) := by decide +kernel
theorem dX8_readHole_62 : decode cX8_readHole 62 = .ok (.aload_n 0, 1) := by decide +kernel
theorem dX8_readHole_63 : decode cX8_readHole 63 = .ok (.iconst 1, 1) := by decide +kernel
theorem dX8_readHole_64 : decode cX8_readHole 64 = .ok (.invokevirtual 71, 3) := by decide +kernel
theorem dX8_readHole_67 : decode cX8_readHole 67 = .ok (.ireturn, 1) := by decide +kernel
theorem dX8_readHole_68 : decode cX8_readHole 68 = .ok (.aload_n 0, 1) := by decide +kernel
theorem dX8_readHole_69 : decode cX8_readHole 69 = .ok (.getfield 20, 3) := by decide +kernel
theorem dX8_readHole_72 : decode cX8_readHole 72 = .ok (.getfield 150, 3) := by decide +kernel
theorem dX8_readHole_75 : decode cX8_readHole 75 = .ok (.iload_n 1, 1) := by decide +kernel
theorem dX8_readHole_76 : decode cX8_readHole 76 = .ok (.iload_n 2, 1) := by decide +kernel
theorem dX8_readHole_77 : decode cX8_readHole 77 = .ok (.invokevirtual 162, 3) := by decide +kernel
theorem dX8_readHole_80 : decode cX8_readHole 80 = .ok (.ifCond .eq 9, 3) := by decide +kernel
theorem dX8_readHole_83 : decode cX8_readHole 83 = .ok (.aload_n 0, 1) := by decide +kernel
theorem dX8_readHole_84 : decode cX8_readHole 84 = .ok (.iconst 4, 1) := by decide +kernel
theorem dX8_readHole_85 : decode cX8_readHole 85 = .ok (.invokevirtual 71, 3) := by decide +kernel
theorem dX8_readHole_88 : decode cX8_readHole 88 = .ok (.ireturn, 1) := by decide +kernel
theorem dX8_readHole_89 : decode cX8_readHole 89 = .ok (.aload_n 0, 1) := by decide +kernel
theorem dX8_readHole_90 : decode cX8_readHole 90 = .ok (.getfield 14, 3) := by decide +kernel
theorem dX8_readHole_93 : decode cX8_readHole 93 = .ok (.invokevirtual 49, 3) := by decide +kernel
theorem dX8_readHole_96 : decode cX8_readHole 96 = .ok (.aload_n 0, 1) := by decide +kernel
theorem dX8_readHole_97 : decode cX8_readHole 97 = .ok (.iconst 1, 1) := by decide +kernel
theorem dX8_readHole_98 : decode cX8_readHole 98 = .ok (.bipush 24, 2) := by decide +kernel
theorem dX8_readHole_100 : decode cX8_readHole 100 = .ok (.invokevirtual 140, 3) := by decide +kernel
theorem dX8_readHole_103 : decode cX8_readHole 103 = .ok (.ifCond .ne 5, 3) := by decide +kernel
theorem dX8_readHole_106 : decode cX8_readHole 106 = .ok (.iconst 0, 1) := by decide +kernel
theorem dX8_readHole_107 : decode cX8_readHole 107 = .ok (.ireturn, 1) := by decide +kernel
theorem dX8_readHole_108 : decode cX8_readHole 108 = .ok (.aload_n 0, 1) := by decide +kernel
theorem dX8_readHole_109 : decode cX8_readHole 109 = .ok (.getfield 14, 3) := by decide +kernel
theorem dX8_readHole_112 : decode cX8_readHole 112 = .ok (.ldc 165, 2) := by decide +kernel
theorem dX8_readHole_114 : decode cX8_readHole 114 = .ok (.invokevirtual 45, 3) := by decide +kernel
theorem dX8_readHole_117 : decode cX8_readHole 117 = .ok (.istore_n 3, 1) := by decide +kernel
theorem dX8_readHole_118 : decode cX8_readHole 118 = .ok (.iload_n 3, 1) := by decide +kernel
theorem dX8_readHole_119 : decode cX8_readHole 119 = .ok (.ifCond .eq 10, 3) := by decide +kernel
theorem dX8_readHole_122 : decode cX8_readHole 122 = .ok (.aload_n 0, 1) := by decide +kernel
theorem dX8_readHole_123 : decode cX8_readHole 123 = .ok (.getfield 14, 3) := by decide +kernel
theorem dX8_readHole_126 : decode cX8_readHole 126 = .ok (.invokevirtual 49, 3) := by decide +kernel
theorem dX8_readHole_129 : decode cX8_readHole 129 = .ok (.aload_n 0, 1) := by decide +kernel
theorem dX8_readHole_130 : decode cX8_readHole 130 = .ok (.getfield 20, 3) := by decide +kernel
theorem dX8_readHole_133 : decode cX8_readHole 133 = .ok (.getfield 150, 3) := by decide +kernel
theorem dX8_readHole_136 : decode cX8_readHole 136 = .ok (.iload_n 1, 1) := by decide +kernel
theorem dX8_readHole_137 : decode cX8_readHole 137 = .ok (.iload_n 2, 1) := by decide +kernel
theorem dX8_readHole_138 : decode cX8_readHole 138 = .ok (.aload_n 0, 1) := by decide +kernel
theorem dX8_readHole_139 : decode cX8_readHole 139 = .ok (.getfield 147, 3) := by decide +kernel
theorem dX8_readHole_142 : decode cX8_readHole 142 = .ok (.iload_n 3, 1) := by decide +kernel
theorem dX8_readHole_143 : decode cX8_readHole 143 = .ok (.invokevirtual 167, 3) := by decide +kernel
theorem dX8_readHole_146 : decode cX8_readHole 146 = .ok (.iconst 1, 1) := by decide +kernel
theorem dX8_readHole_147 : decode cX8_readHole 147 = .ok (.ireturn, 1) := by decide +kernel
theorem dX8_sideNamed_0 : decode cX8_sideNamed 0 = .ok (.aload_n 0, 1) := by decide +kernel
theorem dX8_sideNamed_1 : decode cX8_sideNamed 1 = .ok (.getfield 14, 3) := by decide +kernel
theorem dX8_sideNamed_4 : decode cX8_sideNamed 4 = .ok (.ldc 171, 2) := by decide +kernel
theorem dX8_sideNamed_6 : decode cX8_sideNamed 6 = .ok (.invokevirtual 45, 3) := by decide +kernel
theorem dX8_sideNamed_9 : decode cX8_sideNamed 9 = .ok (.ifCond .eq 5, 3) := by decide +kernel
theorem dX8_sideNamed_12 : decode cX8_sideNamed 12 = .ok (.iconst 0, 1) := by decide +kernel
theorem dX8_sideNamed_13 : decode cX8_sideNamed 13 = .ok (.ireturn, 1) := by decide +kernel
theorem dX8_sideNamed_14 : decode cX8_sideNamed 14 = .ok (.aload_n 0, 1) := by decide +kernel
theorem dX8_sideNamed_15 : decode cX8_sideNamed 15 = .ok (.getfield 14, 3) := by decide +kernel
theorem dX8_sideNamed_18 : decode cX8_sideNamed 18 = .ok (.ldc 173, 2) := by decide +kernel
theorem dX8_sideNamed_20 : decode cX8_sideNamed 20 = .ok (.invokevirtual 45, 3) := by decide +kernel
theorem dX8_sideNamed_23 : decode cX8_sideNamed 23 = .ok (.ifCond .eq 5, 3) := by decide +kernel
theorem dX8_sideNamed_26 : decode cX8_sideNamed 26 = .ok (.iconst 1, 1) := by decide +kernel
theorem dX8_sideNamed_27 : decode cX8_sideNamed 27 = .ok (.ireturn, 1) := by decide +kernel
theorem dX8_sideNamed_28 : decode cX8_sideNamed 28 = .ok (.aload_n 0, 1) := by decide +kernel
theorem dX8_sideNamed_29 : decode cX8_sideNamed 29 = .ok (.getfield 14, 3) := by decide +kernel
theorem dX8_sideNamed_32 : decode cX8_sideNamed 32 = .ok (.ldc 175, 2) := by decide +kernel
theorem dX8_sideNamed_34 : decode cX8_sideNamed 34 = .ok (.invokevirtual 45, 3) := by decide +kernel
theorem dX8_sideNamed_37 : decode cX8_sideNamed 37 = .ok (.ifCond .eq 5, 3) := by decide +kernel
theorem dX8_sideNamed_40 : decode cX8_sideNamed 40 = .ok (.iconst 2, 1) := by decide +kernel
theorem dX8_sideNamed_41 : decode cX8_sideNamed 41 = .ok (.ireturn, 1) := by decide +kernel
theorem dX8_sideNamed_42 : decode cX8_sideNamed 42 = .ok (.aload_n 0, 1) := by decide +kernel
theorem dX8_sideNamed_43 : decode cX8_sideNamed 43 = .ok (.getfield 14, 3) := by decide +kernel
theorem dX8_sideNamed_46 : decode cX8_sideNamed 46 = .ok (.ldc 177, 2) := by decide +kernel
theorem dX8_sideNamed_48 : decode cX8_sideNamed 48 = .ok (.invokevirtual 45, 3) := by decide +kernel
theorem dX8_sideNamed_51 : decode cX8_sideNamed 51 = .ok (.ifCond .eq 7, 3) := by decide +kernel
theorem dX8_sideNamed_54 : decode cX8_sideNamed 54 = .ok (.iconst 3, 1) := by decide +kernel
theorem dX8_sideNamed_55 : decode cX8_sideNamed 55 = .ok (.goto 4, 3) := by decide +kernel
theorem dX8_sideNamed_58 : decode cX8_sideNamed 58 = .ok (.iconst (-1), 1) := by decide +kernel
theorem dX8_sideNamed_59 : decode cX8_sideNamed 59 = .ok (.ireturn, 1) := by decide +kernel
theorem dX8_readCause_0 : decode cX8_readCause 0 = .ok (.aload_n 0, 1) := by decide +kernel
theorem dX8_readCause_1 : decode cX8_readCause 1 = .ok (.getfield 14, 3) := by decide +kernel
theorem dX8_readCause_4 : decode cX8_readCause 4 = .ok (.invokevirtual 49, 3) := by decide +kernel
theorem dX8_readCause_7 : decode cX8_readCause 7 = .ok (.aload_n 0, 1) := by decide +kernel
theorem dX8_readCause_8 : decode cX8_readCause 8 = .ok (.invokevirtual 179, 3) := by decide +kernel
theorem dX8_readCause_11 : decode cX8_readCause 11 = .ok (.istore_n 1, 1) := by decide +kernel
theorem dX8_readCause_12 : decode cX8_readCause 12 = .ok (.iload_n 1, 1) := by decide +kernel
theorem dX8_readCause_13 : decode cX8_readCause 13 = .ok (.iconst (-1), 1) := by decide +kernel
theorem dX8_readCause_14 : decode cX8_readCause 14 = .ok (.if_icmp .ne 9, 3) := by decide +kernel
theorem dX8_readCause_17 : decode cX8_readCause 17 = .ok (.aload_n 0, 1) := by decide +kernel
theorem dX8_readCause_18 : decode cX8_readCause 18 = .ok (.iconst 1, 1) := by decide +kernel
theorem dX8_readCause_19 : decode cX8_readCause 19 = .ok (.invokevirtual 71, 3) := by decide +kernel
theorem dX8_readCause_22 : decode cX8_readCause 22 = .ok (.ireturn, 1) := by decide +kernel
theorem dX8_readCause_23 : decode cX8_readCause 23 = .ok (.aload_n 0, 1) := by decide +kernel
theorem dX8_readCause_24 : decode cX8_readCause 24 = .ok (.bipush 10, 2) := by decide +kernel
theorem dX8_readCause_26 : decode cX8_readCause 26 = .ok (.iload_n 1, 1) := by decide +kernel
theorem dX8_readCause_27 : decode cX8_readCause 27 = .ok (.iadd, 1) := by decide +kernel
theorem dX8_readCause_28 : decode cX8_readCause 28 = .ok (.invokevirtual 81, 3) := by decide +kernel
theorem dX8_readCause_31 : decode cX8_readCause 31 = .ok (.ifCond .eq 13, 3) := by decide +kernel
theorem dX8_readCause_34 : decode cX8_readCause 34 = .ok (.aload_n 0, 1) := by decide +kernel
theorem dX8_readCause_35 : decode cX8_readCause 35 = .ok (.iconst 0, 1) := by decide +kernel
theorem dX8_readCause_36 : decode cX8_readCause 36 = .ok (.bipush 99, 2) := by decide +kernel
theorem dX8_readCause_38 : decode cX8_readCause 38 = .ok (.invokevirtual 140, 3) := by decide +kernel
theorem dX8_readCause_41 : decode cX8_readCause 41 = .ok (.ifCond .ne 5, 3) := by decide +kernel
theorem dX8_readCause_44 : decode cX8_readCause 44 = .ok (.iconst 0, 1) := by decide +kernel
theorem dX8_readCause_45 : decode cX8_readCause 45 = .ok (.ireturn, 1) := by decide +kernel
theorem dX8_readCause_46 : decode cX8_readCause 46 = .ok (.aload_n 0, 1) := by decide +kernel
theorem dX8_readCause_47 : decode cX8_readCause 47 = .ok (.getfield 20, 3) := by decide +kernel
theorem dX8_readCause_50 : decode cX8_readCause 50 = .ok (.getfield 67, 3) := by decide +kernel
theorem dX8_readCause_53 : decode cX8_readCause 53 = .ok (.iload_n 1, 1) := by decide +kernel
theorem dX8_readCause_54 : decode cX8_readCause 54 = .ok (.aload_n 0, 1) := by decide +kernel
theorem dX8_readCause_55 : decode cX8_readCause 55 = .ok (.getfield 147, 3) := by decide +kernel
theorem dX8_readCause_58 : decode cX8_readCause 58 = .ok (.iastore, 1) := by decide +kernel
theorem dX8_readCause_59 : decode cX8_readCause 59 = .ok (.iconst 1, 1) := by decide +kernel
theorem dX8_readCause_60 : decode cX8_readCause 60 = .ok (.ireturn, 1) := by decide +kernel
theorem dX8_causeNamed_0 : decode cX8_causeNamed 0 = .ok (.aload_n 0, 1) := by decide +kernel
theorem dX8_causeNamed_1 : decode cX8_causeNamed 1 = .ok (.getfield 14, 3) := by decide +kernel
theorem dX8_causeNamed_4 : decode cX8_causeNamed 4 = .ok (.ldc 182, 2) := by decide +kernel
theorem dX8_causeNamed_6 : decode cX8_causeNamed 6 = .ok (.invokevirtual 45, 3) := by decide +kernel
theorem dX8_causeNamed_9 : decode cX8_causeNamed 9 = .ok (.ifCond .eq 5, 3) := by decide +kernel
theorem dX8_causeNamed_12 : decode cX8_causeNamed 12 = .ok (.iconst 0, 1) := by decide +kernel
theorem dX8_causeNamed_13 : decode cX8_causeNamed 13 = .ok (.ireturn, 1) := by decide +kernel
theorem dX8_causeNamed_14 : decode cX8_causeNamed 14 = .ok (.aload_n 0, 1) := by decide +kernel
theorem dX8_causeNamed_15 : decode cX8_causeNamed 15 = .ok (.getfield 14, 3) := by decide +kernel
theorem dX8_causeNamed_18 : decode cX8_causeNamed 18 = .ok (.ldc 184, 2) := by decide +kernel
theorem dX8_causeNamed_20 : decode cX8_causeNamed 20 = .ok (.invokevirtual 45, 3) := by decide +kernel
theorem dX8_causeNamed_23 : decode cX8_causeNamed 23 = .ok (.ifCond .eq 5, 3) := by decide +kernel
theorem dX8_causeNamed_26 : decode cX8_causeNamed 26 = .ok (.iconst 1, 1) := by decide +kernel
theorem dX8_causeNamed_27 : decode cX8_causeNamed 27 = .ok (.ireturn, 1) := by decide +kernel
theorem dX8_causeNamed_28 : decode cX8_causeNamed 28 = .ok (.aload_n 0, 1) := by decide +kernel
theorem dX8_causeNamed_29 : decode cX8_causeNamed 29 = .ok (.getfield 14, 3) := by decide +kernel
theorem dX8_causeNamed_32 : decode cX8_causeNamed 32 = .ok (.ldc 186, 2) := by decide +kernel
theorem dX8_causeNamed_34 : decode cX8_causeNamed 34 = .ok (.invokevirtual 45, 3) := by decide +kernel
theorem dX8_causeNamed_37 : decode cX8_causeNamed 37 = .ok (.ifCond .eq 5, 3) := by decide +kernel
theorem dX8_causeNamed_40 : decode cX8_causeNamed 40 = .ok (.iconst 2, 1) := by decide +kernel
theorem dX8_causeNamed_41 : decode cX8_causeNamed 41 = .ok (.ireturn, 1) := by decide +kernel
theorem dX8_causeNamed_42 : decode cX8_causeNamed 42 = .ok (.aload_n 0, 1) := by decide +kernel
theorem dX8_causeNamed_43 : decode cX8_causeNamed 43 = .ok (.getfield 14, 3) := by decide +kernel
theorem dX8_causeNamed_46 : decode cX8_causeNamed 46 = .ok (.ldc 188, 2) := by decide +kernel
theorem dX8_causeNamed_48 : decode cX8_causeNamed 48 = .ok (.invokevirtual 45, 3) := by decide +kernel
theorem dX8_causeNamed_51 : decode cX8_causeNamed 51 = .ok (.ifCond .eq 7, 3) := by decide +kernel
theorem dX8_causeNamed_54 : decode cX8_causeNamed 54 = .ok (.iconst 3, 1) := by decide +kernel
theorem dX8_causeNamed_55 : decode cX8_causeNamed 55 = .ok (.goto 4, 3) := by decide +kernel
theorem dX8_causeNamed_58 : decode cX8_causeNamed 58 = .ok (.iconst (-1), 1) := by decide +kernel
theorem dX8_causeNamed_59 : decode cX8_causeNamed 59 = .ok (.ireturn, 1) := by decide +kernel
theorem dX8_readTry_0 : decode cX8_readTry 0 = .ok (.aload_n 0, 1) := by decide +kernel
theorem dX8_readTry_1 : decode cX8_readTry 1 = .ok (.getfield 20, 3) := by decide +kernel
theorem dX8_readTry_4 : decode cX8_readTry 4 = .ok (.getfield 190, 3) := by decide +kernel
theorem dX8_readTry_7 : decode cX8_readTry 7 = .ok (.getfield 194, 3) := by decide +kernel
theorem dX8_readTry_10 : decode cX8_readTry 10 = .ok (.bipush 6, 2) := by decide +kernel
theorem dX8_readTry_12 : decode cX8_readTry 12 = .ok (.if_icmp .lt 9, 3) := by decide +kernel
theorem dX8_readTry_15 : decode cX8_readTry 15 = .ok (.aload_n 0, 1) := by decide +kernel
theorem dX8_readTry_16 : decode cX8_readTry 16 = .ok (.iconst 2, 1) := by decide +kernel
theorem dX8_readTry_17 : decode cX8_readTry 17 = .ok (.invokevirtual 71, 3) := by decide +kernel
theorem dX8_readTry_20 : decode cX8_readTry 20 = .ok (.ireturn, 1) := by decide +kernel
theorem dX8_readTry_21 : decode cX8_readTry 21 = .ok (.aload_n 0, 1) := by decide +kernel
theorem dX8_readTry_22 : decode cX8_readTry 22 = .ok (.getfield 14, 3) := by decide +kernel
theorem dX8_readTry_25 : decode cX8_readTry 25 = .ok (.invokevirtual 49, 3) := by decide +kernel
theorem dX8_readTry_28 : decode cX8_readTry 28 = .ok (.aload_n 0, 1) := by decide +kernel
theorem dX8_readTry_29 : decode cX8_readTry 29 = .ok (.iconst 1, 1) := by decide +kernel
theorem dX8_readTry_30 : decode cX8_readTry 30 = .ok (.bipush 99, 2) := by decide +kernel
theorem dX8_readTry_32 : decode cX8_readTry 32 = .ok (.invokevirtual 140, 3) := by decide +kernel
theorem dX8_readTry_35 : decode cX8_readTry 35 = .ok (.ifCond .ne 5, 3) := by decide +kernel
theorem dX8_readTry_38 : decode cX8_readTry 38 = .ok (.iconst 0, 1) := by decide +kernel
theorem dX8_readTry_39 : decode cX8_readTry 39 = .ok (.ireturn, 1) := by decide +kernel
theorem dX8_readTry_40 : decode cX8_readTry 40 = .ok (.aload_n 0, 1) := by decide +kernel
theorem dX8_readTry_41 : decode cX8_readTry 41 = .ok (.getfield 147, 3) := by decide +kernel
theorem dX8_readTry_44 : decode cX8_readTry 44 = .ok (.istore_n 1, 1) := by decide +kernel
theorem dX8_readTry_45 : decode cX8_readTry 45 = .ok (.aload_n 0, 1) := by decide +kernel
theorem dX8_readTry_46 : decode cX8_readTry 46 = .ok (.iconst 1, 1) := by decide +kernel
theorem dX8_readTry_47 : decode cX8_readTry 47 = .ok (.bipush 99, 2) := by decide +kernel
theorem dX8_readTry_49 : decode cX8_readTry 49 = .ok (.invokevirtual 140, 3) := by decide +kernel
theorem dX8_readTry_52 : decode cX8_readTry 52 = .ok (.ifCond .ne 5, 3) := by decide +kernel
theorem dX8_readTry_55 : decode cX8_readTry 55 = .ok (.iconst 0, 1) := by decide +kernel
theorem dX8_readTry_56 : decode cX8_readTry 56 = .ok (.ireturn, 1) := by decide +kernel
theorem dX8_readTry_57 : decode cX8_readTry 57 = .ok (.aload_n 0, 1) := by decide +kernel
theorem dX8_readTry_58 : decode cX8_readTry 58 = .ok (.getfield 20, 3) := by decide +kernel
theorem dX8_readTry_61 : decode cX8_readTry 61 = .ok (.getfield 190, 3) := by decide +kernel
theorem dX8_readTry_64 : decode cX8_readTry 64 = .ok (.iload_n 1, 1) := by decide +kernel
theorem dX8_readTry_65 : decode cX8_readTry 65 = .ok (.aload_n 0, 1) := by decide +kernel
theorem dX8_readTry_66 : decode cX8_readTry 66 = .ok (.getfield 147, 3) := by decide +kernel
theorem dX8_readTry_69 : decode cX8_readTry 69 = .ok (.invokevirtual 197, 3) := by decide +kernel
theorem dX8_readTry_72 : decode cX8_readTry 72 = .ok (.iconst 1, 1) := by decide +kernel
theorem dX8_readTry_73 : decode cX8_readTry 73 = .ok (.ireturn, 1) := by decide +kernel
theorem dX8_readRider_0 : decode cX8_readRider 0 = .ok (.aload_n 0, 1) := by decide +kernel
theorem dX8_readRider_1 : decode cX8_readRider 1 = .ok (.getfield 20, 3) := by decide +kernel
theorem dX8_readRider_4 : decode cX8_readRider 4 = .ok (.getfield 200, 3) := by decide +kernel
theorem dX8_readRider_7 : decode cX8_readRider 7 = .ok (.getfield 204, 3) := by decide +kernel
theorem dX8_readRider_10 : decode cX8_readRider 10 = .ok (.bipush 8, 2) := by decide +kernel
theorem dX8_readRider_12 : decode cX8_readRider 12 = .ok (.if_icmp .lt 9, 3) := by decide +kernel
theorem dX8_readRider_15 : decode cX8_readRider 15 = .ok (.aload_n 0, 1) := by decide +kernel
theorem dX8_readRider_16 : decode cX8_readRider 16 = .ok (.iconst 2, 1) := by decide +kernel
theorem dX8_readRider_17 : decode cX8_readRider 17 = .ok (.invokevirtual 71, 3) := by decide +kernel
theorem dX8_readRider_20 : decode cX8_readRider 20 = .ok (.ireturn, 1) := by decide +kernel
theorem dX8_readRider_21 : decode cX8_readRider 21 = .ok (.aload_n 0, 1) := by decide +kernel
theorem dX8_readRider_22 : decode cX8_readRider 22 = .ok (.getfield 14, 3) := by decide +kernel
theorem dX8_readRider_25 : decode cX8_readRider 25 = .ok (.invokevirtual 49, 3) := by decide +kernel
theorem dX8_readRider_28 : decode cX8_readRider 28 = .ok (.aload_n 0, 1) := by decide +kernel
theorem dX8_readRider_29 : decode cX8_readRider 29 = .ok (.iconst 0, 1) := by decide +kernel
theorem dX8_readRider_30 : decode cX8_readRider 30 = .ok (.bipush 39, 2) := by decide +kernel
theorem dX8_readRider_32 : decode cX8_readRider 32 = .ok (.invokevirtual 140, 3) := by decide +kernel
theorem dX8_readRider_35 : decode cX8_readRider 35 = .ok (.ifCond .ne 5, 3) := by decide +kernel
theorem dX8_readRider_38 : decode cX8_readRider 38 = .ok (.iconst 0, 1) := by decide +kernel
theorem dX8_readRider_39 : decode cX8_readRider 39 = .ok (.ireturn, 1) := by decide +kernel
theorem dX8_readRider_40 : decode cX8_readRider 40 = .ok (.aload_n 0, 1) := by decide +kernel
theorem dX8_readRider_41 : decode cX8_readRider 41 = .ok (.getfield 147, 3) := by decide +kernel
theorem dX8_readRider_44 : decode cX8_readRider 44 = .ok (.istore_n 1, 1) := by decide +kernel
theorem dX8_readRider_45 : decode cX8_readRider 45 = .ok (.aload_n 0, 1) := by decide +kernel
theorem dX8_readRider_46 : decode cX8_readRider 46 = .ok (.iconst 0, 1) := by decide +kernel
theorem dX8_readRider_47 : decode cX8_readRider 47 = .ok (.bipush 39, 2) := by decide +kernel
theorem dX8_readRider_49 : decode cX8_readRider 49 = .ok (.invokevirtual 140, 3) := by decide +kernel
theorem dX8_readRider_52 : decode cX8_readRider 52 = .ok (.ifCond .ne 5, 3) := by decide +kernel
theorem dX8_readRider_55 : decode cX8_readRider 55 = .ok (.iconst 0, 1) := by decide +kernel
theorem dX8_readRider_56 : decode cX8_readRider 56 = .ok (.ireturn, 1) := by decide +kernel
theorem dX8_readRider_57 : decode cX8_readRider 57 = .ok (.aload_n 0, 1) := by decide +kernel
theorem dX8_readRider_58 : decode cX8_readRider 58 = .ok (.getfield 147, 3) := by decide +kernel
theorem dX8_readRider_61 : decode cX8_readRider 61 = .ok (.istore_n 2, 1) := by decide +kernel
theorem dX8_readRider_62 : decode cX8_readRider 62 = .ok (.aload_n 0, 1) := by decide +kernel
theorem dX8_readRider_63 : decode cX8_readRider 63 = .ok (.iconst 0, 1) := by decide +kernel
theorem dX8_readRider_64 : decode cX8_readRider 64 = .ok (.bipush 23, 2) := by decide +kernel
theorem dX8_readRider_66 : decode cX8_readRider 66 = .ok (.invokevirtual 140, 3) := by decide +kernel
theorem dX8_readRider_69 : decode cX8_readRider 69 = .ok (.ifCond .ne 5, 3) := by decide +kernel
theorem dX8_readRider_72 : decode cX8_readRider 72 = .ok (.iconst 0, 1) := by decide +kernel
theorem dX8_readRider_73 : decode cX8_readRider 73 = .ok (.ireturn, 1) := by decide +kernel
theorem dX8_readRider_74 : decode cX8_readRider 74 = .ok (.aload_n 0, 1) := by decide +kernel
theorem dX8_readRider_75 : decode cX8_readRider 75 = .ok (.getfield 14, 3) := by decide +kernel
theorem dX8_readRider_78 : decode cX8_readRider 78 = .ok (.ldc 207, 2) := by decide +kernel
theorem dX8_readRider_80 : decode cX8_readRider 80 = .ok (.invokevirtual 45, 3) := by decide +kernel
theorem dX8_readRider_83 : decode cX8_readRider 83 = .ok (.istore_n 3, 1) := by decide +kernel
theorem dX8_readRider_84 : decode cX8_readRider 84 = .ok (.iload_n 3, 1) := by decide +kernel
theorem dX8_readRider_85 : decode cX8_readRider 85 = .ok (.ifCond .ne 21, 3) := by decide +kernel
theorem dX8_readRider_88 : decode cX8_readRider 88 = .ok (.aload_n 0, 1) := by decide +kernel
theorem dX8_readRider_89 : decode cX8_readRider 89 = .ok (.getfield 14, 3) := by decide +kernel
theorem dX8_readRider_92 : decode cX8_readRider 92 = .ok (.ldc 209, 2) := by decide +kernel
theorem dX8_readRider_94 : decode cX8_readRider 94 = .ok (.invokevirtual 45, 3) := by decide +kernel
theorem dX8_readRider_97 : decode cX8_readRider 97 = .ok (.ifCond .ne 9, 3) := by decide +kernel
theorem dX8_readRider_100 : decode cX8_readRider 100 = .ok (.aload_n 0, 1) := by decide +kernel
theorem dX8_readRider_101 : decode cX8_readRider 101 = .ok (.iconst 1, 1) := by decide +kernel
theorem dX8_readRider_102 : decode cX8_readRider 102 = .ok (.invokevirtual 71, 3) := by decide +kernel
theorem dX8_readRider_105 : decode cX8_readRider 105 = .ok (.ireturn, 1) := by decide +kernel
theorem dX8_readRider_106 : decode cX8_readRider 106 = .ok (.aload_n 0, 1) := by decide +kernel
theorem dX8_readRider_107 : decode cX8_readRider 107 = .ok (.getfield 14, 3) := by decide +kernel
theorem dX8_readRider_110 : decode cX8_readRider 110 = .ok (.invokevirtual 49, 3) := by decide +kernel
theorem dX8_readRider_113 : decode cX8_readRider 113 = .ok (.aload_n 0, 1) := by decide +kernel
theorem dX8_readRider_114 : decode cX8_readRider 114 = .ok (.getfield 20, 3) := by decide +kernel
theorem dX8_readRider_117 : decode cX8_readRider 117 = .ok (.getfield 200, 3) := by decide +kernel
theorem dX8_readRider_120 : decode cX8_readRider 120 = .ok (.iload_n 1, 1) := by decide +kernel
theorem dX8_readRider_121 : decode cX8_readRider 121 = .ok (.iload_n 2, 1) := by decide +kernel
theorem dX8_readRider_122 : decode cX8_readRider 122 = .ok (.aload_n 0, 1) := by decide +kernel
theorem dX8_readRider_123 : decode cX8_readRider 123 = .ok (.getfield 147, 3) := by decide +kernel
theorem dX8_readRider_126 : decode cX8_readRider 126 = .ok (.iload_n 3, 1) := by decide +kernel
theorem dX8_readRider_127 : decode cX8_readRider 127 = .ok (.invokevirtual 211, 3) := by decide +kernel
theorem dX8_readRider_130 : decode cX8_readRider 130 = .ok (.iconst 1, 1) := by decide +kernel
theorem dX8_readRider_131 : decode cX8_readRider 131 = .ok (.ireturn, 1) := by decide +kernel
theorem dX8_readOnce_0 : decode cX8_readOnce 0 = .ok (.aload_n 0, 1) := by decide +kernel
theorem dX8_readOnce_1 : decode cX8_readOnce 1 = .ok (.getfield 29, 3) := by decide +kernel
theorem dX8_readOnce_4 : decode cX8_readOnce 4 = .ok (.iload_n 1, 1) := by decide +kernel
theorem dX8_readOnce_5 : decode cX8_readOnce 5 = .ok (.ishr, 1) := by decide +kernel
theorem dX8_readOnce_6 : decode cX8_readOnce 6 = .ok (.iconst 1, 1) := by decide +kernel
theorem dX8_readOnce_7 : decode cX8_readOnce 7 = .ok (.iand, 1) := by decide +kernel
theorem dX8_readOnce_8 : decode cX8_readOnce 8 = .ok (.iconst 1, 1) := by decide +kernel
theorem dX8_readOnce_9 : decode cX8_readOnce 9 = .ok (.if_icmp .ne 9, 3) := by decide +kernel
theorem dX8_readOnce_12 : decode cX8_readOnce 12 = .ok (.aload_n 0, 1) := by decide +kernel
theorem dX8_readOnce_13 : decode cX8_readOnce 13 = .ok (.iconst 5, 1) := by decide +kernel
theorem dX8_readOnce_14 : decode cX8_readOnce 14 = .ok (.invokevirtual 71, 3) := by decide +kernel
theorem dX8_readOnce_17 : decode cX8_readOnce 17 = .ok (.ireturn, 1) := by decide +kernel
theorem dX8_readOnce_18 : decode cX8_readOnce 18 = .ok (.aload_n 0, 1) := by decide +kernel
theorem dX8_readOnce_19 : decode cX8_readOnce 19 = .ok (.dup, 1) := by decide +kernel
theorem dX8_readOnce_20 : decode cX8_readOnce 20 = .ok (.getfield 29, 3) := by decide +kernel
theorem dX8_readOnce_23 : decode cX8_readOnce 23 = .ok (.iconst 1, 1) := by decide +kernel
theorem dX8_readOnce_24 : decode cX8_readOnce 24 = .ok (.iload_n 1, 1) := by decide +kernel
theorem dX8_readOnce_25 : decode cX8_readOnce 25 = .ok (.ishl, 1) := by decide +kernel
theorem dX8_readOnce_26 : decode cX8_readOnce 26 = .ok (.ior, 1) := by decide +kernel
theorem dX8_readOnce_27 : decode cX8_readOnce 27 = .ok (.putfield 29, 3) := by decide +kernel
theorem dX8_readOnce_30 : decode cX8_readOnce 30 = .ok (.aload_n 0, 1) := by decide +kernel
theorem dX8_readOnce_31 : decode cX8_readOnce 31 = .ok (.getfield 14, 3) := by decide +kernel
theorem dX8_readOnce_34 : decode cX8_readOnce 34 = .ok (.invokevirtual 49, 3) := by decide +kernel
theorem dX8_readOnce_37 : decode cX8_readOnce 37 = .ok (.iconst 1, 1) := by decide +kernel
theorem dX8_readOnce_38 : decode cX8_readOnce 38 = .ok (.ireturn, 1) := by decide +kernel
theorem dX8_readNumber_0 : decode cX8_readNumber 0 = .ok (.aload_n 0, 1) := by decide +kernel
theorem dX8_readNumber_1 : decode cX8_readNumber 1 = .ok (.getfield 14, 3) := by decide +kernel
theorem dX8_readNumber_4 : decode cX8_readNumber 4 = .ok (.getfield 60, 3) := by decide +kernel
theorem dX8_readNumber_7 : decode cX8_readNumber 7 = .ok (.iconst 2, 1) := by decide +kernel
theorem dX8_readNumber_8 : decode cX8_readNumber 8 = .ok (.if_icmp .eq 9, 3) := by decide +kernel
theorem dX8_readNumber_11 : decode cX8_readNumber 11 = .ok (.aload_n 0, 1) := by decide +kernel
theorem dX8_readNumber_12 : decode cX8_readNumber 12 = .ok (.iconst 1, 1) := by decide +kernel
theorem dX8_readNumber_13 : decode cX8_readNumber 13 = .ok (.invokevirtual 71, 3) := by decide +kernel
theorem dX8_readNumber_16 : decode cX8_readNumber 16 = .ok (.ireturn, 1) := by decide +kernel
theorem dX8_readNumber_17 : decode cX8_readNumber 17 = .ok (.aload_n 0, 1) := by decide +kernel
theorem dX8_readNumber_18 : decode cX8_readNumber 18 = .ok (.getfield 14, 3) := by decide +kernel
theorem dX8_readNumber_21 : decode cX8_readNumber 21 = .ok (.invokevirtual 212, 3) := by decide +kernel
theorem dX8_readNumber_24 : decode cX8_readNumber 24 = .ok (.ifCond .eq 18, 3) := by decide +kernel
theorem dX8_readNumber_27 : decode cX8_readNumber 27 = .ok (.aload_n 0, 1) := by decide +kernel
theorem dX8_readNumber_28 : decode cX8_readNumber 28 = .ok (.getfield 14, 3) := by decide +kernel
theorem dX8_readNumber_31 : decode cX8_readNumber 31 = .ok (.invokevirtual 215, 3) := by decide +kernel
theorem dX8_readNumber_34 : decode cX8_readNumber 34 = .ok (.iload_n 1, 1) := by decide +kernel
theorem dX8_readNumber_35 : decode cX8_readNumber 35 = .ok (.iload_n 2, 1) := by decide +kernel
theorem dX8_readNumber_36 : decode cX8_readNumber 36 = .ok (.invokestatic 218, 3) := by decide +kernel
theorem dX8_readNumber_39 : decode cX8_readNumber 39 = .ok (.ifCond .ne 9, 3) := by decide +kernel
theorem dX8_readNumber_42 : decode cX8_readNumber 42 = .ok (.aload_n 0, 1) := by decide +kernel
theorem dX8_readNumber_43 : decode cX8_readNumber 43 = .ok (.iconst 2, 1) := by decide +kernel
theorem dX8_readNumber_44 : decode cX8_readNumber 44 = .ok (.invokevirtual 71, 3) := by decide +kernel
theorem dX8_readNumber_47 : decode cX8_readNumber 47 = .ok (.ireturn, 1) := by decide +kernel
theorem dX8_readNumber_48 : decode cX8_readNumber 48 = .ok (.aload_n 0, 1) := by decide +kernel
theorem dX8_readNumber_49 : decode cX8_readNumber 49 = .ok (.aload_n 0, 1) := by decide +kernel
theorem dX8_readNumber_50 : decode cX8_readNumber 50 = .ok (.getfield 14, 3) := by decide +kernel
theorem dX8_readNumber_53 : decode cX8_readNumber 53 = .ok (.invokevirtual 215, 3) := by decide +kernel
theorem dX8_readNumber_56 : decode cX8_readNumber 56 = .ok (.putfield 147, 3) := by decide +kernel
theorem dX8_readNumber_59 : decode cX8_readNumber 59 = .ok (.aload_n 0, 1) := by decide +kernel
theorem dX8_readNumber_60 : decode cX8_readNumber 60 = .ok (.getfield 14, 3) := by decide +kernel
theorem dX8_readNumber_63 : decode cX8_readNumber 63 = .ok (.invokevirtual 49, 3) := by decide +kernel
theorem dX8_readNumber_66 : decode cX8_readNumber 66 = .ok (.iconst 1, 1) := by decide +kernel
theorem dX8_readNumber_67 : decode cX8_readNumber 67 = .ok (.ireturn, 1) := by decide +kernel
theorem dX8_readSign_0 : decode cX8_readSign 0 = .ok (.aload_n 0, 1) := by decide +kernel
theorem dX8_readSign_1 : decode cX8_readSign 1 = .ok (.getfield 14, 3) := by decide +kernel
theorem dX8_readSign_4 : decode cX8_readSign 4 = .ok (.iload_n 1, 1) := by decide +kernel
theorem dX8_readSign_5 : decode cX8_readSign 5 = .ok (.invokevirtual 222, 3) := by decide +kernel
theorem dX8_readSign_8 : decode cX8_readSign 8 = .ok (.ifCond .ne 9, 3) := by decide +kernel
theorem dX8_readSign_11 : decode cX8_readSign 11 = .ok (.aload_n 0, 1) := by decide +kernel
theorem dX8_readSign_12 : decode cX8_readSign 12 = .ok (.iconst 1, 1) := by decide +kernel
theorem dX8_readSign_13 : decode cX8_readSign 13 = .ok (.invokevirtual 71, 3) := by decide +kernel
theorem dX8_readSign_16 : decode cX8_readSign 16 = .ok (.ireturn, 1) := by decide +kernel
theorem dX8_readSign_17 : decode cX8_readSign 17 = .ok (.aload_n 0, 1) := by decide +kernel
theorem dX8_readSign_18 : decode cX8_readSign 18 = .ok (.getfield 14, 3) := by decide +kernel
theorem dX8_readSign_21 : decode cX8_readSign 21 = .ok (.invokevirtual 49, 3) := by decide +kernel
theorem dX8_readSign_24 : decode cX8_readSign 24 = .ok (.iconst 1, 1) := by decide +kernel
theorem dX8_readSign_25 : decode cX8_readSign 25 = .ok (.ireturn, 1) := by decide +kernel
theorem dX8_readExpr_0 : decode cX8_readExpr 0 = .ok (.iload_n 2, 1) := by decide +kernel
theorem dX8_readExpr_1 : decode cX8_readExpr 1 = .ok (.bipush 6, 2) := by decide +kernel
theorem dX8_readExpr_3 : decode cX8_readExpr 3 = .ok (.if_icmp .lt 20, 3) := by decide +kernel
theorem dX8_readExpr_6 : decode cX8_readExpr 6 = .ok (.aload_n 0, 1) := by decide +kernel
theorem dX8_readExpr_7 : decode cX8_readExpr 7 = .ok (.aload_n 0, 1) := by decide +kernel
theorem dX8_readExpr_8 : decode cX8_readExpr 8 = .ok (.invokevirtual 225, 3) := by decide +kernel
theorem dX8_readExpr_11 : decode cX8_readExpr 11 = .ok (.ifCond .eq 7, 3) := by decide +kernel
theorem dX8_readExpr_14 : decode cX8_readExpr 14 = .ok (.iconst 2, 1) := by decide +kernel
theorem dX8_readExpr_15 : decode cX8_readExpr 15 = .ok (.goto 4, 3) := by decide +kernel
theorem dX8_readExpr_18 : decode cX8_readExpr 18 = .ok (.iconst 1, 1) := by decide +kernel
theorem dX8_readExpr_19 : decode cX8_readExpr 19 = .ok (.invokevirtual 71, 3) := by decide +kernel
theorem dX8_readExpr_22 : decode cX8_readExpr 22 = .ok (.ireturn, 1) := by decide +kernel
theorem dX8_readExpr_23 : decode cX8_readExpr 23 = .ok (.aload_n 0, 1) := by decide +kernel
theorem dX8_readExpr_24 : decode cX8_readExpr 24 = .ok (.aload_n 1, 1) := by decide +kernel
theorem dX8_readExpr_25 : decode cX8_readExpr 25 = .ok (.iload_n 2, 1) := by decide +kernel
theorem dX8_readExpr_26 : decode cX8_readExpr 26 = .ok (.invokevirtual 228, 3) := by decide +kernel
theorem dX8_readExpr_29 : decode cX8_readExpr 29 = .ok (.ifCond .ne 5, 3) := by decide +kernel
theorem dX8_readExpr_32 : decode cX8_readExpr 32 = .ok (.iconst 0, 1) := by decide +kernel
theorem dX8_readExpr_33 : decode cX8_readExpr 33 = .ok (.ireturn, 1) := by decide +kernel
theorem dX8_readExpr_34 : decode cX8_readExpr 34 = .ok (.iconst 0, 1) := by decide +kernel
theorem dX8_readExpr_35 : decode cX8_readExpr 35 = .ok (.istore_n 3, 1) := by decide +kernel
theorem dX8_readExpr_36 : decode cX8_readExpr 36 = .ok (.iload_n 3, 1) := by decide +kernel
theorem dX8_readExpr_37 : decode cX8_readExpr 37 = .ok (.sipush 700, 3) := by decide +kernel
theorem dX8_readExpr_40 : decode cX8_readExpr 40 = .ok (.if_icmp .ge 44, 3) := by decide +kernel
theorem dX8_readExpr_43 : decode cX8_readExpr 43 = .ok (.aload_n 0, 1) := by decide +kernel
theorem dX8_readExpr_44 : decode cX8_readExpr 44 = .ok (.getfield 14, 3) := by decide +kernel
theorem dX8_readExpr_47 : decode cX8_readExpr 47 = .ok (.ldc 231, 2) := by decide +kernel
theorem dX8_readExpr_49 : decode cX8_readExpr 49 = .ok (.invokevirtual 45, 3) := by decide +kernel
theorem dX8_readExpr_52 : decode cX8_readExpr 52 = .ok (.ifCond .eq 32, 3) := by decide +kernel
theorem dX8_readExpr_55 : decode cX8_readExpr 55 = .ok (.aload_n 0, 1) := by decide +kernel
theorem dX8_readExpr_56 : decode cX8_readExpr 56 = .ok (.getfield 14, 3) := by decide +kernel
theorem dX8_readExpr_59 : decode cX8_readExpr 59 = .ok (.invokevirtual 49, 3) := by decide +kernel
theorem dX8_readExpr_62 : decode cX8_readExpr 62 = .ok (.aload_n 0, 1) := by decide +kernel
theorem dX8_readExpr_63 : decode cX8_readExpr 63 = .ok (.aload_n 1, 1) := by decide +kernel
theorem dX8_readExpr_64 : decode cX8_readExpr 64 = .ok (.iload_n 2, 1) := by decide +kernel
theorem dX8_readExpr_65 : decode cX8_readExpr 65 = .ok (.invokevirtual 228, 3) := by decide +kernel
theorem dX8_readExpr_68 : decode cX8_readExpr 68 = .ok (.ifCond .ne 5, 3) := by decide +kernel
theorem dX8_readExpr_71 : decode cX8_readExpr 71 = .ok (.iconst 0, 1) := by decide +kernel
theorem dX8_readExpr_72 : decode cX8_readExpr 72 = .ok (.ireturn, 1) := by decide +kernel
theorem dX8_readExpr_73 : decode cX8_readExpr 73 = .ok (.aload_n 1, 1) := by decide +kernel
theorem dX8_readExpr_74 : decode cX8_readExpr 74 = .ok (.iconst (-1), 1) := by decide +kernel
theorem dX8_readExpr_75 : decode cX8_readExpr 75 = .ok (.invokevirtual 235, 3) := by decide +kernel
theorem dX8_readExpr_78 : decode cX8_readExpr 78 = .ok (.iinc 3 1, 3) := by decide +kernel
theorem dX8_readExpr_81 : decode cX8_readExpr 81 = .ok (.goto (-45), 3) := by decide +kernel
theorem dX8_readExpr_84 : decode cX8_readExpr 84 = .ok (.iconst 1, 1) := by decide +kernel
theorem dX8_readExpr_85 : decode cX8_readExpr 85 = .ok (.ireturn, 1) := by decide +kernel
theorem dX8_mayBeginExpr_0 : decode cX8_mayBeginExpr 0 = .ok (.aload_n 0, 1) := by decide +kernel
theorem dX8_mayBeginExpr_1 : decode cX8_mayBeginExpr 1 = .ok (.getfield 14, 3) := by decide +kernel
theorem dX8_mayBeginExpr_4 : decode cX8_mayBeginExpr 4 = .ok (.getfield 60, 3) := by decide +kernel
theorem dX8_mayBeginExpr_7 : decode cX8_mayBeginExpr 7 = .ok (.iconst 2, 1) := by decide +kernel
theorem dX8_mayBeginExpr_8 : decode cX8_mayBeginExpr 8 = .ok (.if_icmp .eq 26, 3) := by decide +kernel
theorem dX8_mayBeginExpr_11 : decode cX8_mayBeginExpr 11 = .ok (.aload_n 0, 1) := by decide +kernel
theorem dX8_mayBeginExpr_12 : decode cX8_mayBeginExpr 12 = .ok (.getfield 14, 3) := by decide +kernel
theorem dX8_mayBeginExpr_15 : decode cX8_mayBeginExpr 15 = .ok (.getfield 60, 3) := by decide +kernel
theorem dX8_mayBeginExpr_18 : decode cX8_mayBeginExpr 18 = .ok (.iconst 1, 1) := by decide +kernel
theorem dX8_mayBeginExpr_19 : decode cX8_mayBeginExpr 19 = .ok (.if_icmp .eq 15, 3) := by decide +kernel
theorem dX8_mayBeginExpr_22 : decode cX8_mayBeginExpr 22 = .ok (.aload_n 0, 1) := by decide +kernel
theorem dX8_mayBeginExpr_23 : decode cX8_mayBeginExpr 23 = .ok (.getfield 14, 3) := by decide +kernel
theorem dX8_mayBeginExpr_26 : decode cX8_mayBeginExpr 26 = .ok (.bipush 40, 2) := by decide +kernel
theorem dX8_mayBeginExpr_28 : decode cX8_mayBeginExpr 28 = .ok (.invokevirtual 222, 3) := by decide +kernel
theorem dX8_mayBeginExpr_31 : decode cX8_mayBeginExpr 31 = .ok (.ifCond .eq 7, 3) := by decide +kernel
theorem dX8_mayBeginExpr_34 : decode cX8_mayBeginExpr 34 = .ok (.iconst 1, 1) := by decide +kernel
theorem dX8_mayBeginExpr_35 : decode cX8_mayBeginExpr 35 = .ok (.goto 4, 3) := by decide +kernel
theorem dX8_mayBeginExpr_38 : decode cX8_mayBeginExpr 38 = .ok (.iconst 0, 1) := by decide +kernel
theorem dX8_mayBeginExpr_39 : decode cX8_mayBeginExpr 39 = .ok (.ireturn, 1) := by decide +kernel
theorem dX8_readAnd_0 : decode cX8_readAnd 0 = .ok (.aload_n 0, 1) := by decide +kernel
theorem dX8_readAnd_1 : decode cX8_readAnd 1 = .ok (.aload_n 1, 1) := by decide +kernel
theorem dX8_readAnd_2 : decode cX8_readAnd 2 = .ok (.iload_n 2, 1) := by decide +kernel
theorem dX8_readAnd_3 : decode cX8_readAnd 3 = .ok (.invokevirtual 238, 3) := by decide +kernel
theorem dX8_readAnd_6 : decode cX8_readAnd 6 = .ok (.ifCond .ne 5, 3) := by decide +kernel
theorem dX8_readAnd_9 : decode cX8_readAnd 9 = .ok (.iconst 0, 1) := by decide +kernel
theorem dX8_readAnd_10 : decode cX8_readAnd 10 = .ok (.ireturn, 1) := by decide +kernel
theorem dX8_readAnd_11 : decode cX8_readAnd 11 = .ok (.iconst 0, 1) := by decide +kernel
theorem dX8_readAnd_12 : decode cX8_readAnd 12 = .ok (.istore_n 3, 1) := by decide +kernel
theorem dX8_readAnd_13 : decode cX8_readAnd 13 = .ok (.iload_n 3, 1) := by decide +kernel
theorem dX8_readAnd_14 : decode cX8_readAnd 14 = .ok (.sipush 700, 3) := by decide +kernel
theorem dX8_readAnd_17 : decode cX8_readAnd 17 = .ok (.if_icmp .ge 45, 3) := by decide +kernel
theorem dX8_readAnd_20 : decode cX8_readAnd 20 = .ok (.aload_n 0, 1) := by decide +kernel
theorem dX8_readAnd_21 : decode cX8_readAnd 21 = .ok (.getfield 14, 3) := by decide +kernel
theorem dX8_readAnd_24 : decode cX8_readAnd 24 = .ok (.ldc 241, 2) := by decide +kernel
theorem dX8_readAnd_26 : decode cX8_readAnd 26 = .ok (.invokevirtual 45, 3) := by decide +kernel
theorem dX8_readAnd_29 : decode cX8_readAnd 29 = .ok (.ifCond .eq 33, 3) := by decide +kernel
theorem dX8_readAnd_32 : decode cX8_readAnd 32 = .ok (.aload_n 0, 1) := by decide +kernel
theorem dX8_readAnd_33 : decode cX8_readAnd 33 = .ok (.getfield 14, 3) := by decide +kernel
theorem dX8_readAnd_36 : decode cX8_readAnd 36 = .ok (.invokevirtual 49, 3) := by decide +kernel
theorem dX8_readAnd_39 : decode cX8_readAnd 39 = .ok (.aload_n 0, 1) := by decide +kernel
theorem dX8_readAnd_40 : decode cX8_readAnd 40 = .ok (.aload_n 1, 1) := by decide +kernel
theorem dX8_readAnd_41 : decode cX8_readAnd 41 = .ok (.iload_n 2, 1) := by decide +kernel
theorem dX8_readAnd_42 : decode cX8_readAnd 42 = .ok (.invokevirtual 238, 3) := by decide +kernel
theorem dX8_readAnd_45 : decode cX8_readAnd 45 = .ok (.ifCond .ne 5, 3) := by decide +kernel
theorem dX8_readAnd_48 : decode cX8_readAnd 48 = .ok (.iconst 0, 1) := by decide +kernel
theorem dX8_readAnd_49 : decode cX8_readAnd 49 = .ok (.ireturn, 1) := by decide +kernel
theorem dX8_readAnd_50 : decode cX8_readAnd 50 = .ok (.aload_n 1, 1) := by decide +kernel
theorem dX8_readAnd_51 : decode cX8_readAnd 51 = .ok (.bipush (-2), 2) := by decide +kernel
theorem dX8_readAnd_53 : decode cX8_readAnd 53 = .ok (.invokevirtual 235, 3) := by decide +kernel
theorem dX8_readAnd_56 : decode cX8_readAnd 56 = .ok (.iinc 3 1, 3) := by decide +kernel
theorem dX8_readAnd_59 : decode cX8_readAnd 59 = .ok (.goto (-46), 3) := by decide +kernel
theorem dX8_readAnd_62 : decode cX8_readAnd 62 = .ok (.iconst 1, 1) := by decide +kernel
theorem dX8_readAnd_63 : decode cX8_readAnd 63 = .ok (.ireturn, 1) := by decide +kernel
theorem dX8_readNot_0 : decode cX8_readNot 0 = .ok (.iconst 0, 1) := by decide +kernel
theorem dX8_readNot_1 : decode cX8_readNot 1 = .ok (.istore_n 3, 1) := by decide +kernel
theorem dX8_readNot_2 : decode cX8_readNot 2 = .ok (.iload_n 3, 1) := by decide +kernel
theorem dX8_readNot_3 : decode cX8_readNot 3 = .ok (.bipush 6, 2) := by decide +kernel
theorem dX8_readNot_5 : decode cX8_readNot 5 = .ok (.if_icmp .ge 28, 3) := by decide +kernel
theorem dX8_readNot_8 : decode cX8_readNot 8 = .ok (.aload_n 0, 1) := by decide +kernel
theorem dX8_readNot_9 : decode cX8_readNot 9 = .ok (.getfield 14, 3) := by decide +kernel
theorem dX8_readNot_12 : decode cX8_readNot 12 = .ok (.ldc 243, 2) := by decide +kernel
theorem dX8_readNot_14 : decode cX8_readNot 14 = .ok (.invokevirtual 45, 3) := by decide +kernel
theorem dX8_readNot_17 : decode cX8_readNot 17 = .ok (.ifCond .eq 16, 3) := by decide +kernel
theorem dX8_readNot_20 : decode cX8_readNot 20 = .ok (.iinc 3 1, 3) := by decide +kernel
theorem dX8_readNot_23 : decode cX8_readNot 23 = .ok (.aload_n 0, 1) := by decide +kernel
theorem dX8_readNot_24 : decode cX8_readNot 24 = .ok (.getfield 14, 3) := by decide +kernel
theorem dX8_readNot_27 : decode cX8_readNot 27 = .ok (.invokevirtual 49, 3) := by decide +kernel
theorem dX8_readNot_30 : decode cX8_readNot 30 = .ok (.goto (-28), 3) := by decide +kernel
theorem dX8_readNot_33 : decode cX8_readNot 33 = .ok (.aload_n 0, 1) := by decide +kernel
theorem dX8_readNot_34 : decode cX8_readNot 34 = .ok (.getfield 14, 3) := by decide +kernel
theorem dX8_readNot_37 : decode cX8_readNot 37 = .ok (.ldc 243, 2) := by decide +kernel
theorem dX8_readNot_39 : decode cX8_readNot 39 = .ok (.invokevirtual 45, 3) := by decide +kernel
theorem dX8_readNot_42 : decode cX8_readNot 42 = .ok (.ifCond .eq 9, 3) := by decide +kernel
theorem dX8_readNot_45 : decode cX8_readNot 45 = .ok (.aload_n 0, 1) := by decide +kernel
theorem dX8_readNot_46 : decode cX8_readNot 46 = .ok (.iconst 2, 1) := by decide +kernel
theorem dX8_readNot_47 : decode cX8_readNot 47 = .ok (.invokevirtual 71, 3) := by decide +kernel
theorem dX8_readNot_50 : decode cX8_readNot 50 = .ok (.ireturn, 1) := by decide +kernel
theorem dX8_readNot_51 : decode cX8_readNot 51 = .ok (.aload_n 0, 1) := by decide +kernel
theorem dX8_readNot_52 : decode cX8_readNot 52 = .ok (.aload_n 1, 1) := by decide +kernel
theorem dX8_readNot_53 : decode cX8_readNot 53 = .ok (.iload_n 2, 1) := by decide +kernel
theorem dX8_readNot_54 : decode cX8_readNot 54 = .ok (.invokevirtual 245, 3) := by decide +kernel
theorem dX8_readNot_57 : decode cX8_readNot 57 = .ok (.ifCond .ne 5, 3) := by decide +kernel
theorem dX8_readNot_60 : decode cX8_readNot 60 = .ok (.iconst 0, 1) := by decide +kernel
theorem dX8_readNot_61 : decode cX8_readNot 61 = .ok (.ireturn, 1) := by decide +kernel
theorem dX8_readNot_62 : decode cX8_readNot 62 = .ok (.iconst 0, 1) := by decide +kernel
theorem dX8_readNot_63 : decode cX8_readNot 63 = .ok (.istore 4, 2) := by decide +kernel
theorem dX8_readNot_65 : decode cX8_readNot 65 = .ok (.iload 4, 2) := by decide +kernel
theorem dX8_readNot_67 : decode cX8_readNot 67 = .ok (.iload_n 3, 1) := by decide +kernel
theorem dX8_readNot_68 : decode cX8_readNot 68 = .ok (.if_icmp .ge 15, 3) := by decide +kernel
theorem dX8_readNot_71 : decode cX8_readNot 71 = .ok (.aload_n 1, 1) := by decide +kernel
theorem dX8_readNot_72 : decode cX8_readNot 72 = .ok (.bipush (-3), 2) := by decide +kernel
theorem dX8_readNot_74 : decode cX8_readNot 74 = .ok (.invokevirtual 235, 3) := by decide +kernel
theorem dX8_readNot_77 : decode cX8_readNot 77 = .ok (.iinc 4 1, 3) := by decide +kernel
theorem dX8_readNot_80 : decode cX8_readNot 80 = .ok (.goto (-15), 3) := by decide +kernel
theorem dX8_readNot_83 : decode cX8_readNot 83 = .ok (.iconst 1, 1) := by decide +kernel
theorem dX8_readNot_84 : decode cX8_readNot 84 = .ok (.ireturn, 1) := by decide +kernel
theorem dX8_readTest_0 : decode cX8_readTest 0 = .ok (.aload_n 0, 1) := by decide +kernel
theorem dX8_readTest_1 : decode cX8_readTest 1 = .ok (.aload_n 1, 1) := by decide +kernel
theorem dX8_readTest_2 : decode cX8_readTest 2 = .ok (.iload_n 2, 1) := by decide +kernel
theorem dX8_readTest_3 : decode cX8_readTest 3 = .ok (.invokevirtual 248, 3) := by decide +kernel
theorem dX8_readTest_6 : decode cX8_readTest 6 = .ok (.ifCond .ne 5, 3) := by decide +kernel
theorem dX8_readTest_9 : decode cX8_readTest 9 = .ok (.iconst 0, 1) := by decide +kernel
theorem dX8_readTest_10 : decode cX8_readTest 10 = .ok (.ireturn, 1) := by decide +kernel
theorem dX8_readTest_11 : decode cX8_readTest 11 = .ok (.aload_n 0, 1) := by decide +kernel
theorem dX8_readTest_12 : decode cX8_readTest 12 = .ok (.getfield 14, 3) := by decide +kernel
theorem dX8_readTest_15 : decode cX8_readTest 15 = .ok (.bipush 60, 2) := by decide +kernel
theorem dX8_readTest_17 : decode cX8_readTest 17 = .ok (.invokevirtual 222, 3) := by decide +kernel
theorem dX8_readTest_20 : decode cX8_readTest 20 = .ok (.ifCond .eq 8, 3) := by decide +kernel
theorem dX8_readTest_23 : decode cX8_readTest 23 = .ok (.bipush (-4), 2) := by decide +kernel
theorem dX8_readTest_25 : decode cX8_readTest 25 = .ok (.goto 5, 3) := by decide +kernel
theorem dX8_readTest_28 : decode cX8_readTest 28 = .ok (.bipush (-5), 2) := by decide +kernel
theorem dX8_readTest_30 : decode cX8_readTest 30 = .ok (.istore_n 3, 1) := by decide +kernel
theorem dX8_readTest_31 : decode cX8_readTest 31 = .ok (.iload_n 3, 1) := by decide +kernel
theorem dX8_readTest_32 : decode cX8_readTest 32 = .ok (.bipush (-5), 2) := by decide +kernel
theorem dX8_readTest_34 : decode cX8_readTest 34 = .ok (.if_icmp .ne 17, 3) := by decide +kernel
theorem dX8_readTest_37 : decode cX8_readTest 37 = .ok (.aload_n 0, 1) := by decide +kernel
theorem dX8_readTest_38 : decode cX8_readTest 38 = .ok (.getfield 14, 3) := by decide +kernel
theorem dX8_readTest_41 : decode cX8_readTest 41 = .ok (.bipush 61, 2) := by decide +kernel
theorem dX8_readTest_43 : decode cX8_readTest 43 = .ok (.invokevirtual 222, 3) := by decide +kernel
theorem dX8_readTest_46 : decode cX8_readTest 46 = .ok (.ifCond .ne 5, 3) := by decide +kernel
theorem dX8_readTest_49 : decode cX8_readTest 49 = .ok (.iconst 1, 1) := by decide +kernel
theorem dX8_readTest_50 : decode cX8_readTest 50 = .ok (.ireturn, 1) := by decide +kernel
theorem dX8_readTest_51 : decode cX8_readTest 51 = .ok (.aload_n 0, 1) := by decide +kernel
theorem dX8_readTest_52 : decode cX8_readTest 52 = .ok (.getfield 14, 3) := by decide +kernel
theorem dX8_readTest_55 : decode cX8_readTest 55 = .ok (.invokevirtual 49, 3) := by decide +kernel
theorem dX8_readTest_58 : decode cX8_readTest 58 = .ok (.aload_n 0, 1) := by decide +kernel
theorem dX8_readTest_59 : decode cX8_readTest 59 = .ok (.aload_n 1, 1) := by decide +kernel
theorem dX8_readTest_60 : decode cX8_readTest 60 = .ok (.iload_n 2, 1) := by decide +kernel
theorem dX8_readTest_61 : decode cX8_readTest 61 = .ok (.invokevirtual 248, 3) := by decide +kernel
theorem dX8_readTest_64 : decode cX8_readTest 64 = .ok (.ifCond .ne 5, 3) := by decide +kernel
theorem dX8_readTest_67 : decode cX8_readTest 67 = .ok (.iconst 0, 1) := by decide +kernel
theorem dX8_readTest_68 : decode cX8_readTest 68 = .ok (.ireturn, 1) := by decide +kernel
theorem dX8_readTest_69 : decode cX8_readTest 69 = .ok (.aload_n 1, 1) := by decide +kernel
theorem dX8_readTest_70 : decode cX8_readTest 70 = .ok (.iload_n 3, 1) := by decide +kernel
theorem dX8_readTest_71 : decode cX8_readTest 71 = .ok (.invokevirtual 235, 3) := by decide +kernel
theorem dX8_readTest_74 : decode cX8_readTest 74 = .ok (.iconst 1, 1) := by decide +kernel
theorem dX8_readTest_75 : decode cX8_readTest 75 = .ok (.ireturn, 1) := by decide +kernel
theorem dX8_readSum_0 : decode cX8_readSum 0 = .ok (.aload_n 0, 1) := by decide +kernel
theorem dX8_readSum_1 : decode cX8_readSum 1 = .ok (.aload_n 1, 1) := by decide +kernel
theorem dX8_readSum_2 : decode cX8_readSum 2 = .ok (.iload_n 2, 1) := by decide +kernel
theorem dX8_readSum_3 : decode cX8_readSum 3 = .ok (.invokevirtual 251, 3) := by decide +kernel
theorem dX8_readSum_6 : decode cX8_readSum 6 = .ok (.ifCond .ne 5, 3) := by decide +kernel
theorem dX8_readSum_9 : decode cX8_readSum 9 = .ok (.iconst 0, 1) := by decide +kernel
theorem dX8_readSum_10 : decode cX8_readSum 10 = .ok (.ireturn, 1) := by decide +kernel
theorem dX8_readSum_11 : decode cX8_readSum 11 = .ok (.iconst 0, 1) := by decide +kernel
theorem dX8_readSum_12 : decode cX8_readSum 12 = .ok (.istore_n 3, 1) := by decide +kernel
theorem dX8_readSum_13 : decode cX8_readSum 13 = .ok (.iload_n 3, 1) := by decide +kernel
theorem dX8_readSum_14 : decode cX8_readSum 14 = .ok (.sipush 700, 3) := by decide +kernel
theorem dX8_readSum_17 : decode cX8_readSum 17 = .ok (.if_icmp .ge 78, 3) := by decide +kernel
theorem dX8_readSum_20 : decode cX8_readSum 20 = .ok (.aload_n 0, 1) := by decide +kernel
theorem dX8_readSum_21 : decode cX8_readSum 21 = .ok (.getfield 14, 3) := by decide +kernel
theorem dX8_readSum_24 : decode cX8_readSum 24 = .ok (.bipush 43, 2) := by decide +kernel
theorem dX8_readSum_26 : decode cX8_readSum 26 = .ok (.invokevirtual 222, 3) := by decide +kernel
theorem dX8_readSum_29 : decode cX8_readSum 29 = .ok (.ifCond .ne 15, 3) := by decide +kernel
theorem dX8_readSum_32 : decode cX8_readSum 32 = .ok (.aload_n 0, 1) := by decide +kernel
theorem dX8_readSum_33 : decode cX8_readSum 33 = .ok (.getfield 14, 3) := by decide +kernel
theorem dX8_readSum_36 : decode cX8_readSum 36 = .ok (.bipush 45, 2) := by decide +kernel
theorem dX8_readSum_38 : decode cX8_readSum 38 = .ok (.invokevirtual 222, 3) := by decide +kernel
theorem dX8_readSum_41 : decode cX8_readSum 41 = .ok (.ifCond .eq 54, 3) := by decide +kernel
theorem dX8_readSum_44 : decode cX8_readSum 44 = .ok (.aload_n 0, 1) := by decide +kernel
theorem dX8_readSum_45 : decode cX8_readSum 45 = .ok (.getfield 14, 3) := by decide +kernel
theorem dX8_readSum_48 : decode cX8_readSum 48 = .ok (.bipush 43, 2) := by decide +kernel
theorem dX8_readSum_50 : decode cX8_readSum 50 = .ok (.invokevirtual 222, 3) := by decide +kernel
theorem dX8_readSum_53 : decode cX8_readSum 53 = .ok (.ifCond .eq 8, 3) := by decide +kernel
theorem dX8_readSum_56 : decode cX8_readSum 56 = .ok (.bipush (-6), 2) := by decide +kernel
theorem dX8_readSum_58 : decode cX8_readSum 58 = .ok (.goto 5, 3) := by decide +kernel
theorem dX8_readSum_61 : decode cX8_readSum 61 = .ok (.bipush (-7), 2) := by decide +kernel
theorem dX8_readSum_63 : decode cX8_readSum 63 = .ok (.istore 4, 2) := by decide +kernel
theorem dX8_readSum_65 : decode cX8_readSum 65 = .ok (.aload_n 0, 1) := by decide +kernel
theorem dX8_readSum_66 : decode cX8_readSum 66 = .ok (.getfield 14, 3) := by decide +kernel
theorem dX8_readSum_69 : decode cX8_readSum 69 = .ok (.invokevirtual 49, 3) := by decide +kernel
theorem dX8_readSum_72 : decode cX8_readSum 72 = .ok (.aload_n 0, 1) := by decide +kernel
theorem dX8_readSum_73 : decode cX8_readSum 73 = .ok (.aload_n 1, 1) := by decide +kernel
theorem dX8_readSum_74 : decode cX8_readSum 74 = .ok (.iload_n 2, 1) := by decide +kernel
theorem dX8_readSum_75 : decode cX8_readSum 75 = .ok (.invokevirtual 251, 3) := by decide +kernel
theorem dX8_readSum_78 : decode cX8_readSum 78 = .ok (.ifCond .ne 5, 3) := by decide +kernel
theorem dX8_readSum_81 : decode cX8_readSum 81 = .ok (.iconst 0, 1) := by decide +kernel
theorem dX8_readSum_82 : decode cX8_readSum 82 = .ok (.ireturn, 1) := by decide +kernel
theorem dX8_readSum_83 : decode cX8_readSum 83 = .ok (.aload_n 1, 1) := by decide +kernel
theorem dX8_readSum_84 : decode cX8_readSum 84 = .ok (.iload 4, 2) := by decide +kernel
theorem dX8_readSum_86 : decode cX8_readSum 86 = .ok (.invokevirtual 235, 3) := by decide +kernel
theorem dX8_readSum_89 : decode cX8_readSum 89 = .ok (.iinc 3 1, 3) := by decide +kernel
theorem dX8_readSum_92 : decode cX8_readSum 92 = .ok (.goto (-79), 3) := by decide +kernel
theorem dX8_readSum_95 : decode cX8_readSum 95 = .ok (.iconst 1, 1) := by decide +kernel
theorem dX8_readSum_96 : decode cX8_readSum 96 = .ok (.ireturn, 1) := by decide +kernel
theorem dX8_readProduct_0 : decode cX8_readProduct 0 = .ok (.aload_n 0, 1) := by decide +kernel
theorem dX8_readProduct_1 : decode cX8_readProduct 1 = .ok (.aload_n 1, 1) := by decide +kernel
theorem dX8_readProduct_2 : decode cX8_readProduct 2 = .ok (.iload_n 2, 1) := by decide +kernel
theorem dX8_readProduct_3 : decode cX8_readProduct 3 = .ok (.invokevirtual 254, 3) := by decide +kernel
theorem dX8_readProduct_6 : decode cX8_readProduct 6 = .ok (.ifCond .ne 5, 3) := by decide +kernel
theorem dX8_readProduct_9 : decode cX8_readProduct 9 = .ok (.iconst 0, 1) := by decide +kernel
theorem dX8_readProduct_10 : decode cX8_readProduct 10 = .ok (.ireturn, 1) := by decide +kernel
theorem dX8_readProduct_11 : decode cX8_readProduct 11 = .ok (.iconst 0, 1) := by decide +kernel
theorem dX8_readProduct_12 : decode cX8_readProduct 12 = .ok (.istore_n 3, 1) := by decide +kernel
theorem dX8_readProduct_13 : decode cX8_readProduct 13 = .ok (.iload_n 3, 1) := by decide +kernel
theorem dX8_readProduct_14 : decode cX8_readProduct 14 = .ok (.sipush 700, 3) := by decide +kernel
theorem dX8_readProduct_17 : decode cX8_readProduct 17 = .ok (.if_icmp .ge 78, 3) := by decide +kernel
theorem dX8_readProduct_20 : decode cX8_readProduct 20 = .ok (.aload_n 0, 1) := by decide +kernel
theorem dX8_readProduct_21 : decode cX8_readProduct 21 = .ok (.getfield 14, 3) := by decide +kernel
theorem dX8_readProduct_24 : decode cX8_readProduct 24 = .ok (.bipush 42, 2) := by decide +kernel
theorem dX8_readProduct_26 : decode cX8_readProduct 26 = .ok (.invokevirtual 222, 3) := by decide +kernel
theorem dX8_readProduct_29 : decode cX8_readProduct 29 = .ok (.ifCond .ne 15, 3) := by decide +kernel
theorem dX8_readProduct_32 : decode cX8_readProduct 32 = .ok (.aload_n 0, 1) := by decide +kernel
theorem dX8_readProduct_33 : decode cX8_readProduct 33 = .ok (.getfield 14, 3) := by decide +kernel
theorem dX8_readProduct_36 : decode cX8_readProduct 36 = .ok (.bipush 47, 2) := by decide +kernel
theorem dX8_readProduct_38 : decode cX8_readProduct 38 = .ok (.invokevirtual 222, 3) := by decide +kernel
theorem dX8_readProduct_41 : decode cX8_readProduct 41 = .ok (.ifCond .eq 54, 3) := by decide +kernel
theorem dX8_readProduct_44 : decode cX8_readProduct 44 = .ok (.aload_n 0, 1) := by decide +kernel
theorem dX8_readProduct_45 : decode cX8_readProduct 45 = .ok (.getfield 14, 3) := by decide +kernel
theorem dX8_readProduct_48 : decode cX8_readProduct 48 = .ok (.bipush 42, 2) := by decide +kernel
theorem dX8_readProduct_50 : decode cX8_readProduct 50 = .ok (.invokevirtual 222, 3) := by decide +kernel
theorem dX8_readProduct_53 : decode cX8_readProduct 53 = .ok (.ifCond .eq 8, 3) := by decide +kernel
theorem dX8_readProduct_56 : decode cX8_readProduct 56 = .ok (.bipush (-8), 2) := by decide +kernel
theorem dX8_readProduct_58 : decode cX8_readProduct 58 = .ok (.goto 5, 3) := by decide +kernel
theorem dX8_readProduct_61 : decode cX8_readProduct 61 = .ok (.bipush (-9), 2) := by decide +kernel
theorem dX8_readProduct_63 : decode cX8_readProduct 63 = .ok (.istore 4, 2) := by decide +kernel
theorem dX8_readProduct_65 : decode cX8_readProduct 65 = .ok (.aload_n 0, 1) := by decide +kernel
theorem dX8_readProduct_66 : decode cX8_readProduct 66 = .ok (.getfield 14, 3) := by decide +kernel
theorem dX8_readProduct_69 : decode cX8_readProduct 69 = .ok (.invokevirtual 49, 3) := by decide +kernel
theorem dX8_readProduct_72 : decode cX8_readProduct 72 = .ok (.aload_n 0, 1) := by decide +kernel
theorem dX8_readProduct_73 : decode cX8_readProduct 73 = .ok (.aload_n 1, 1) := by decide +kernel
theorem dX8_readProduct_74 : decode cX8_readProduct 74 = .ok (.iload_n 2, 1) := by decide +kernel
theorem dX8_readProduct_75 : decode cX8_readProduct 75 = .ok (.invokevirtual 254, 3) := by decide +kernel
theorem dX8_readProduct_78 : decode cX8_readProduct 78 = .ok (.ifCond .ne 5, 3) := by decide +kernel
theorem dX8_readProduct_81 : decode cX8_readProduct 81 = .ok (.iconst 0, 1) := by decide +kernel
theorem dX8_readProduct_82 : decode cX8_readProduct 82 = .ok (.ireturn, 1) := by decide +kernel
theorem dX8_readProduct_83 : decode cX8_readProduct 83 = .ok (.aload_n 1, 1) := by decide +kernel
theorem dX8_readProduct_84 : decode cX8_readProduct 84 = .ok (.iload 4, 2) := by decide +kernel
theorem dX8_readProduct_86 : decode cX8_readProduct 86 = .ok (.invokevirtual 235, 3) := by decide +kernel
theorem dX8_readProduct_89 : decode cX8_readProduct 89 = .ok (.iinc 3 1, 3) := by decide +kernel
theorem dX8_readProduct_92 : decode cX8_readProduct 92 = .ok (.goto (-79), 3) := by decide +kernel
theorem dX8_readProduct_95 : decode cX8_readProduct 95 = .ok (.iconst 1, 1) := by decide +kernel
theorem dX8_readProduct_96 : decode cX8_readProduct 96 = .ok (.ireturn, 1) := by decide +kernel
