theorem dX8_readPart_0 : decode cX8_readPart 0 = .ok (.aload_n 0, 1) := by decide +kernel
theorem dX8_readPart_1 : decode cX8_readPart 1 = .ok (.getfield 14, 3) := by decide +kernel
theorem dX8_readPart_4 : decode cX8_readPart 4 = .ok (.bipush 40, 2) := by decide +kernel
theorem dX8_readPart_6 : decode cX8_readPart 6 = .ok (.invokevirtual 222, 3) := by decide +kernel
theorem dX8_readPart_9 : decode cX8_readPart 9 = .ok (.ifCond .eq 36, 3) := by decide +kernel
theorem dX8_readPart_12 : decode cX8_readPart 12 = .ok (.aload_n 0, 1) := by decide +kernel
theorem dX8_readPart_13 : decode cX8_readPart 13 = .ok (.getfield 14, 3) := by decide +kernel
theorem dX8_readPart_16 : decode cX8_readPart 16 = .ok (.invokevirtual 49, 3) := by decide +kernel
theorem dX8_readPart_19 : decode cX8_readPart 19 = .ok (.aload_n 0, 1) := by decide +kernel
theorem dX8_readPart_20 : decode cX8_readPart 20 = .ok (.aload_n 1, 1) := by decide +kernel
theorem dX8_readPart_21 : decode cX8_readPart 21 = .ok (.iload_n 2, 1) := by decide +kernel
theorem dX8_readPart_22 : decode cX8_readPart 22 = .ok (.iconst 1, 1) := by decide +kernel
theorem dX8_readPart_23 : decode cX8_readPart 23 = .ok (.iadd, 1) := by decide +kernel
theorem dX8_readPart_24 : decode cX8_readPart 24 = .ok (.invokevirtual 90, 3) := by decide +kernel
theorem dX8_readPart_27 : decode cX8_readPart 27 = .ok (.ifCond .eq 16, 3) := by decide +kernel
theorem dX8_readPart_30 : decode cX8_readPart 30 = .ok (.aload_n 0, 1) := by decide +kernel
theorem dX8_readPart_31 : decode cX8_readPart 31 = .ok (.bipush 41, 2) := by decide +kernel
theorem dX8_readPart_33 : decode cX8_readPart 33 = .ok (.invokevirtual 56, 3) := by decide +kernel
theorem dX8_readPart_36 : decode cX8_readPart 36 = .ok (.ifCond .eq 7, 3) := by decide +kernel
theorem dX8_readPart_39 : decode cX8_readPart 39 = .ok (.iconst 1, 1) := by decide +kernel
theorem dX8_readPart_40 : decode cX8_readPart 40 = .ok (.goto 4, 3) := by decide +kernel
theorem dX8_readPart_43 : decode cX8_readPart 43 = .ok (.iconst 0, 1) := by decide +kernel
theorem dX8_readPart_44 : decode cX8_readPart 44 = .ok (.ireturn, 1) := by decide +kernel
theorem dX8_readPart_45 : decode cX8_readPart 45 = .ok (.aload_n 0, 1) := by decide +kernel
theorem dX8_readPart_46 : decode cX8_readPart 46 = .ok (.getfield 14, 3) := by decide +kernel
theorem dX8_readPart_49 : decode cX8_readPart 49 = .ok (.getfield 60, 3) := by decide +kernel
theorem dX8_readPart_52 : decode cX8_readPart 52 = .ok (.iconst 1, 1) := by decide +kernel
theorem dX8_readPart_53 : decode cX8_readPart 53 = .ok (.if_icmp .ne 51, 3) := by decide +kernel
theorem dX8_readPart_56 : decode cX8_readPart 56 = .ok (.aload_n 1, 1) := by decide +kernel
theorem dX8_readPart_57 : decode cX8_readPart 57 = .ok (.aload_n 0, 1) := by decide +kernel
theorem dX8_readPart_58 : decode cX8_readPart 58 = .ok (.getfield 20, 3) := by decide +kernel
theorem dX8_readPart_61 : decode cX8_readPart 61 = .ok (.getfield 86, 3) := by decide +kernel
theorem dX8_readPart_64 : decode cX8_readPart 64 = .ok (.if_acmp .ne 10, 3) := by decide +kernel
theorem dX8_readPart_67 : decode cX8_readPart 67 = .ok (.aload_n 0, 1) := by decide +kernel
theorem dX8_readPart_68 : decode cX8_readPart 68 = .ok (.invokevirtual 257, 3) := by decide +kernel
theorem dX8_readPart_71 : decode cX8_readPart 71 = .ok (.goto 7, 3) := by decide +kernel
theorem dX8_readPart_74 : decode cX8_readPart 74 = .ok (.aload_n 0, 1) := by decide +kernel
theorem dX8_readPart_75 : decode cX8_readPart 75 = .ok (.invokevirtual 260, 3) := by decide +kernel
theorem dX8_readPart_78 : decode cX8_readPart 78 = .ok (.istore_n 3, 1) := by decide +kernel
theorem dX8_readPart_79 : decode cX8_readPart 79 = .ok (.iload_n 3, 1) := by decide +kernel
theorem dX8_readPart_80 : decode cX8_readPart 80 = .ok (.iconst (-1), 1) := by decide +kernel
theorem dX8_readPart_81 : decode cX8_readPart 81 = .ok (.if_icmp .ne 9, 3) := by decide +kernel
theorem dX8_readPart_84 : decode cX8_readPart 84 = .ok (.aload_n 0, 1) := by decide +kernel
theorem dX8_readPart_85 : decode cX8_readPart 85 = .ok (.iconst 3, 1) := by decide +kernel
theorem dX8_readPart_86 : decode cX8_readPart 86 = .ok (.invokevirtual 71, 3) := by decide +kernel
theorem dX8_readPart_89 : decode cX8_readPart 89 = .ok (.ireturn, 1) := by decide +kernel
theorem dX8_readPart_90 : decode cX8_readPart 90 = .ok (.aload_n 1, 1) := by decide +kernel
theorem dX8_readPart_91 : decode cX8_readPart 91 = .ok (.iload_n 3, 1) := by decide +kernel
theorem dX8_readPart_92 : decode cX8_readPart 92 = .ok (.invokevirtual 263, 3) := by decide +kernel
theorem dX8_readPart_95 : decode cX8_readPart 95 = .ok (.aload_n 0, 1) := by decide +kernel
theorem dX8_readPart_96 : decode cX8_readPart 96 = .ok (.getfield 14, 3) := by decide +kernel
theorem dX8_readPart_99 : decode cX8_readPart 99 = .ok (.invokevirtual 49, 3) := by decide +kernel
theorem dX8_readPart_102 : decode cX8_readPart 102 = .ok (.iconst 1, 1) := by decide +kernel
theorem dX8_readPart_103 : decode cX8_readPart 103 = .ok (.ireturn, 1) := by decide +kernel
theorem dX8_readPart_104 : decode cX8_readPart 104 = .ok (.aload_n 0, 1) := by decide +kernel
theorem dX8_readPart_105 : decode cX8_readPart 105 = .ok (.iconst 0, 1) := by decide +kernel
theorem dX8_readPart_106 : decode cX8_readPart 106 = .ok (.sipush 9999, 3) := by decide +kernel
theorem dX8_readPart_109 : decode cX8_readPart 109 = .ok (.invokevirtual 140, 3) := by decide +kernel
theorem dX8_readPart_112 : decode cX8_readPart 112 = .ok (.ifCond .ne 5, 3) := by decide +kernel
theorem dX8_readPart_115 : decode cX8_readPart 115 = .ok (.iconst 0, 1) := by decide +kernel
theorem dX8_readPart_116 : decode cX8_readPart 116 = .ok (.ireturn, 1) := by decide +kernel
theorem dX8_readPart_117 : decode cX8_readPart 117 = .ok (.aload_n 1, 1) := by decide +kernel
theorem dX8_readPart_118 : decode cX8_readPart 118 = .ok (.aload_n 0, 1) := by decide +kernel
theorem dX8_readPart_119 : decode cX8_readPart 119 = .ok (.getfield 147, 3) := by decide +kernel
theorem dX8_readPart_122 : decode cX8_readPart 122 = .ok (.invokevirtual 235, 3) := by decide +kernel
theorem dX8_readPart_125 : decode cX8_readPart 125 = .ok (.iconst 1, 1) := by decide +kernel
theorem dX8_readPart_126 : decode cX8_readPart 126 = .ok (.ireturn, 1) := by decide +kernel
theorem dX8_leakValueNamed_0 : decode cX8_leakValueNamed 0 = .ok (.aload_n 0, 1) := by decide +kernel
theorem dX8_leakValueNamed_1 : decode cX8_leakValueNamed 1 = .ok (.getfield 14, 3) := by decide +kernel
theorem dX8_leakValueNamed_4 : decode cX8_leakValueNamed 4 = .ok (.ldc_w 266, 3) := by decide +kernel
theorem dX8_leakValueNamed_7 : decode cX8_leakValueNamed 7 = .ok (.invokevirtual 45, 3) := by decide +kernel
theorem dX8_leakValueNamed_10 : decode cX8_leakValueNamed 10 = .ok (.ifCond .eq 5, 3) := by decide +kernel
theorem dX8_leakValueNamed_13 : decode cX8_leakValueNamed 13 = .ok (.iconst 0, 1) := by decide +kernel
theorem dX8_leakValueNamed_14 : decode cX8_leakValueNamed 14 = .ok (.ireturn, 1) := by decide +kernel
theorem dX8_leakValueNamed_15 : decode cX8_leakValueNamed 15 = .ok (.aload_n 0, 1) := by decide +kernel
theorem dX8_leakValueNamed_16 : decode cX8_leakValueNamed 16 = .ok (.getfield 14, 3) := by decide +kernel
theorem dX8_leakValueNamed_19 : decode cX8_leakValueNamed 19 = .ok (.ldc_w 268, 3) := by decide +kernel
theorem dX8_leakValueNamed_22 : decode cX8_leakValueNamed 22 = .ok (.invokevirtual 45, 3) := by decide +kernel
theorem dX8_leakValueNamed_25 : decode cX8_leakValueNamed 25 = .ok (.ifCond .eq 5, 3) := by decide +kernel
theorem dX8_leakValueNamed_28 : decode cX8_leakValueNamed 28 = .ok (.iconst 1, 1) := by decide +kernel
theorem dX8_leakValueNamed_29 : decode cX8_leakValueNamed 29 = .ok (.ireturn, 1) := by decide +kernel
theorem dX8_leakValueNamed_30 : decode cX8_leakValueNamed 30 = .ok (.aload_n 0, 1) := by decide +kernel
theorem dX8_leakValueNamed_31 : decode cX8_leakValueNamed 31 = .ok (.getfield 14, 3) := by decide +kernel
theorem dX8_leakValueNamed_34 : decode cX8_leakValueNamed 34 = .ok (.ldc 125, 2) := by decide +kernel
theorem dX8_leakValueNamed_36 : decode cX8_leakValueNamed 36 = .ok (.invokevirtual 45, 3) := by decide +kernel
theorem dX8_leakValueNamed_39 : decode cX8_leakValueNamed 39 = .ok (.ifCond .eq 5, 3) := by decide +kernel
theorem dX8_leakValueNamed_42 : decode cX8_leakValueNamed 42 = .ok (.iconst 2, 1) := by decide +kernel
theorem dX8_leakValueNamed_43 : decode cX8_leakValueNamed 43 = .ok (.ireturn, 1) := by decide +kernel
theorem dX8_leakValueNamed_44 : decode cX8_leakValueNamed 44 = .ok (.aload_n 0, 1) := by decide +kernel
theorem dX8_leakValueNamed_45 : decode cX8_leakValueNamed 45 = .ok (.getfield 14, 3) := by decide +kernel
theorem dX8_leakValueNamed_48 : decode cX8_leakValueNamed 48 = .ok (.ldc_w 270, 3) := by decide +kernel
theorem dX8_leakValueNamed_51 : decode cX8_leakValueNamed 51 = .ok (.invokevirtual 45, 3) := by decide +kernel
theorem dX8_leakValueNamed_54 : decode cX8_leakValueNamed 54 = .ok (.ifCond .eq 5, 3) := by decide +kernel
theorem dX8_leakValueNamed_57 : decode cX8_leakValueNamed 57 = .ok (.iconst 3, 1) := by decide +kernel
theorem dX8_leakValueNamed_58 : decode cX8_leakValueNamed 58 = .ok (.ireturn, 1) := by decide +kernel
theorem dX8_leakValueNamed_59 : decode cX8_leakValueNamed 59 = .ok (.aload_n 0, 1) := by decide +kernel
theorem dX8_leakValueNamed_60 : decode cX8_leakValueNamed 60 = .ok (.getfield 14, 3) := by decide +kernel
theorem dX8_leakValueNamed_63 : decode cX8_leakValueNamed 63 = .ok (.ldc_w 272, 3) := by decide +kernel
theorem dX8_leakValueNamed_66 : decode cX8_leakValueNamed 66 = .ok (.invokevirtual 45, 3) := by decide +kernel
theorem dX8_leakValueNamed_69 : decode cX8_leakValueNamed 69 = .ok (.ifCond .eq 7, 3) := by decide +kernel
theorem dX8_leakValueNamed_72 : decode cX8_leakValueNamed 72 = .ok (.iconst 4, 1) := by decide +kernel
theorem dX8_leakValueNamed_73 : decode cX8_leakValueNamed 73 = .ok (.goto 4, 3) := by decide +kernel
theorem dX8_leakValueNamed_76 : decode cX8_leakValueNamed 76 = .ok (.iconst (-1), 1) := by decide +kernel
theorem dX8_leakValueNamed_77 : decode cX8_leakValueNamed 77 = .ok (.ireturn, 1) := by decide +kernel
theorem dX8_holdsValueNamed_0 : decode cX8_holdsValueNamed 0 = .ok (.aload_n 0, 1) := by decide +kernel
theorem dX8_holdsValueNamed_1 : decode cX8_holdsValueNamed 1 = .ok (.getfield 14, 3) := by decide +kernel
theorem dX8_holdsValueNamed_4 : decode cX8_holdsValueNamed 4 = .ok (.ldc_w 266, 3) := by decide +kernel
theorem dX8_holdsValueNamed_7 : decode cX8_holdsValueNamed 7 = .ok (.invokevirtual 45, 3) := by decide +kernel
theorem dX8_holdsValueNamed_10 : decode cX8_holdsValueNamed 10 = .ok (.ifCond .eq 5, 3) := by decide +kernel
theorem dX8_holdsValueNamed_13 : decode cX8_holdsValueNamed 13 = .ok (.iconst 0, 1) := by decide +kernel
theorem dX8_holdsValueNamed_14 : decode cX8_holdsValueNamed 14 = .ok (.ireturn, 1) := by decide +kernel
theorem dX8_holdsValueNamed_15 : decode cX8_holdsValueNamed 15 = .ok (.aload_n 0, 1) := by decide +kernel
theorem dX8_holdsValueNamed_16 : decode cX8_holdsValueNamed 16 = .ok (.getfield 14, 3) := by decide +kernel
theorem dX8_holdsValueNamed_19 : decode cX8_holdsValueNamed 19 = .ok (.ldc_w 268, 3) := by decide +kernel
theorem dX8_holdsValueNamed_22 : decode cX8_holdsValueNamed 22 = .ok (.invokevirtual 45, 3) := by decide +kernel
theorem dX8_holdsValueNamed_25 : decode cX8_holdsValueNamed 25 = .ok (.ifCond .eq 5, 3) := by decide +kernel
theorem dX8_holdsValueNamed_28 : decode cX8_holdsValueNamed 28 = .ok (.iconst 1, 1) := by decide +kernel
theorem dX8_holdsValueNamed_29 : decode cX8_holdsValueNamed 29 = .ok (.ireturn, 1) := by decide +kernel
theorem dX8_holdsValueNamed_30 : decode cX8_holdsValueNamed 30 = .ok (.aload_n 0, 1) := by decide +kernel
theorem dX8_holdsValueNamed_31 : decode cX8_holdsValueNamed 31 = .ok (.getfield 14, 3) := by decide +kernel
theorem dX8_holdsValueNamed_34 : decode cX8_holdsValueNamed 34 = .ok (.ldc_w 274, 3) := by decide +kernel
theorem dX8_holdsValueNamed_37 : decode cX8_holdsValueNamed 37 = .ok (.invokevirtual 45, 3) := by decide +kernel
theorem dX8_holdsValueNamed_40 : decode cX8_holdsValueNamed 40 = .ok (.ifCond .eq 5, 3) := by decide +kernel
theorem dX8_holdsValueNamed_43 : decode cX8_holdsValueNamed 43 = .ok (.iconst 2, 1) := by decide +kernel
theorem dX8_holdsValueNamed_44 : decode cX8_holdsValueNamed 44 = .ok (.ireturn, 1) := by decide +kernel
theorem dX8_holdsValueNamed_45 : decode cX8_holdsValueNamed 45 = .ok (.aload_n 0, 1) := by decide +kernel
theorem dX8_holdsValueNamed_46 : decode cX8_holdsValueNamed 46 = .ok (.getfield 14, 3) := by decide +kernel
theorem dX8_holdsValueNamed_49 : decode cX8_holdsValueNamed 49 = .ok (.ldc_w 276, 3) := by decide +kernel
theorem dX8_holdsValueNamed_52 : decode cX8_holdsValueNamed 52 = .ok (.invokevirtual 45, 3) := by decide +kernel
theorem dX8_holdsValueNamed_55 : decode cX8_holdsValueNamed 55 = .ok (.ifCond .eq 5, 3) := by decide +kernel
theorem dX8_holdsValueNamed_58 : decode cX8_holdsValueNamed 58 = .ok (.iconst 3, 1) := by decide +kernel
theorem dX8_holdsValueNamed_59 : decode cX8_holdsValueNamed 59 = .ok (.ireturn, 1) := by decide +kernel
theorem dX8_holdsValueNamed_60 : decode cX8_holdsValueNamed 60 = .ok (.aload_n 0, 1) := by decide +kernel
theorem dX8_holdsValueNamed_61 : decode cX8_holdsValueNamed 61 = .ok (.getfield 14, 3) := by decide +kernel
theorem dX8_holdsValueNamed_64 : decode cX8_holdsValueNamed 64 = .ok (.ldc_w 278, 3) := by decide +kernel
theorem dX8_holdsValueNamed_67 : decode cX8_holdsValueNamed 67 = .ok (.invokevirtual 45, 3) := by decide +kernel
theorem dX8_holdsValueNamed_70 : decode cX8_holdsValueNamed 70 = .ok (.ifCond .eq 5, 3) := by decide +kernel
theorem dX8_holdsValueNamed_73 : decode cX8_holdsValueNamed 73 = .ok (.iconst 4, 1) := by decide +kernel
theorem dX8_holdsValueNamed_74 : decode cX8_holdsValueNamed 74 = .ok (.ireturn, 1) := by decide +kernel
theorem dX8_holdsValueNamed_75 : decode cX8_holdsValueNamed 75 = .ok (.aload_n 0, 1) := by decide +kernel
theorem dX8_holdsValueNamed_76 : decode cX8_holdsValueNamed 76 = .ok (.getfield 14, 3) := by decide +kernel
theorem dX8_holdsValueNamed_79 : decode cX8_holdsValueNamed 79 = .ok (.ldc_w 280, 3) := by decide +kernel
theorem dX8_holdsValueNamed_82 : decode cX8_holdsValueNamed 82 = .ok (.invokevirtual 45, 3) := by decide +kernel
theorem dX8_holdsValueNamed_85 : decode cX8_holdsValueNamed 85 = .ok (.ifCond .eq 7, 3) := by decide +kernel
theorem dX8_holdsValueNamed_88 : decode cX8_holdsValueNamed 88 = .ok (.iconst 5, 1) := by decide +kernel
theorem dX8_holdsValueNamed_89 : decode cX8_holdsValueNamed 89 = .ok (.goto 4, 3) := by decide +kernel
theorem dX8_holdsValueNamed_92 : decode cX8_holdsValueNamed 92 = .ok (.iconst (-1), 1) := by decide +kernel
theorem dX8_holdsValueNamed_93 : decode cX8_holdsValueNamed 93 = .ok (.ireturn, 1) := by decide +kernel
theorem dX9_init_0 : decode cX9_init 0 = .ok (.aload_n 0, 1) := by decide +kernel
theorem dX9_init_1 : decode cX9_init 1 = .ok (.invokespecial 1, 3) := by decide +kernel
theorem dX9_init_4 : decode cX9_init 4 = .ok (.aload_n 0, 1) := by decide +kernel
theorem dX9_init_5 : decode cX9_init 5 = .ok (.aload_n 1, 1) := by decide +kernel
theorem dX9_init_6 : decode cX9_init 6 = .ok (.putfield 7, 3) := by decide +kernel
theorem dX9_init_9 : decode cX9_init 9 = .ok (.return_, 1) := by decide +kernel
theorem dX9_begin_0 : decode cX9_begin 0 = .ok (.aload_n 0, 1) := by decide +kernel
theorem dX9_begin_1 : decode cX9_begin 1 = .ok (.iconst 0, 1) := by decide +kernel
theorem dX9_begin_2 : decode cX9_begin 2 = .ok (.iload_n 1, 1) := by decide +kernel
theorem dX9_begin_3 : decode cX9_begin 3 = .ok (.aload_n 0, 1) := by decide +kernel
theorem dX9_begin_4 : decode cX9_begin 4 = .ok (.getfield 7, 3) := by decide +kernel
theorem dX9_begin_7 : decode cX9_begin 7 = .ok (.arraylength, 1) := by decide +kernel
theorem dX9_begin_8 : decode cX9_begin 8 = .ok (.invokestatic 13, 3) := by decide +kernel
theorem dX9_begin_11 : decode cX9_begin 11 = .ok (.invokestatic 19, 3) := by decide +kernel
theorem dX9_begin_14 : decode cX9_begin 14 = .ok (.putfield 22, 3) := by decide +kernel
theorem dX9_begin_17 : decode cX9_begin 17 = .ok (.aload_n 0, 1) := by decide +kernel
theorem dX9_begin_18 : decode cX9_begin 18 = .ok (.iconst 0, 1) := by decide +kernel
theorem dX9_begin_19 : decode cX9_begin 19 = .ok (.putfield 26, 3) := by decide +kernel
theorem dX9_begin_22 : decode cX9_begin 22 = .ok (.aload_n 0, 1) := by decide +kernel
theorem dX9_begin_23 : decode cX9_begin 23 = .ok (.invokevirtual 29, 3) := by decide +kernel
theorem dX9_begin_26 : decode cX9_begin 26 = .ok (.return_, 1) := by decide +kernel
theorem dX9_step_0 : decode cX9_step 0 = .ok (.aload_n 0, 1) := by decide +kernel
theorem dX9_step_1 : decode cX9_step 1 = .ok (.aload_n 0, 1) := by decide +kernel
theorem dX9_step_2 : decode cX9_step 2 = .ok (.getfield 26, 3) := by decide +kernel
theorem dX9_step_5 : decode cX9_step 5 = .ok (.putfield 32, 3) := by decide +kernel
theorem dX9_step_8 : decode cX9_step 8 = .ok (.aload_n 0, 1) := by decide +kernel
theorem dX9_step_9 : decode cX9_step 9 = .ok (.getfield 32, 3) := by decide +kernel
theorem dX9_step_12 : decode cX9_step 12 = .ok (.aload_n 0, 1) := by decide +kernel
theorem dX9_step_13 : decode cX9_step 13 = .ok (.getfield 22, 3) := by decide +kernel
theorem dX9_step_16 : decode cX9_step 16 = .ok (.if_icmp .ge 44, 3) := by decide +kernel
theorem dX9_step_19 : decode cX9_step 19 = .ok (.aload_n 0, 1) := by decide +kernel
theorem dX9_step_20 : decode cX9_step 20 = .ok (.getfield 7, 3) := by decide +kernel
theorem dX9_step_23 : decode cX9_step 23 = .ok (.aload_n 0, 1) := by decide +kernel
theorem dX9_step_24 : decode cX9_step 24 = .ok (.getfield 32, 3) := by decide +kernel
theorem dX9_step_27 : decode cX9_step 27 = .ok (.baload, 1) := by decide +kernel
theorem dX9_step_28 : decode cX9_step 28 = .ok (.bipush 32, 2) := by decide +kernel
theorem dX9_step_30 : decode cX9_step 30 = .ok (.if_icmp .eq 17, 3) := by decide +kernel
theorem dX9_step_33 : decode cX9_step 33 = .ok (.aload_n 0, 1) := by decide +kernel
theorem dX9_step_34 : decode cX9_step 34 = .ok (.getfield 7, 3) := by decide +kernel
theorem dX9_step_37 : decode cX9_step 37 = .ok (.aload_n 0, 1) := by decide +kernel
theorem dX9_step_38 : decode cX9_step 38 = .ok (.getfield 32, 3) := by decide +kernel
theorem dX9_step_41 : decode cX9_step 41 = .ok (.baload, 1) := by decide +kernel
theorem dX9_step_42 : decode cX9_step 42 = .ok (.bipush 10, 2) := by decide +kernel
theorem dX9_step_44 : decode cX9_step 44 = .ok (.if_icmp .ne 16, 3) := by decide +kernel
theorem dX9_step_47 : decode cX9_step 47 = .ok (.aload_n 0, 1) := by decide +kernel
theorem dX9_step_48 : decode cX9_step 48 = .ok (.dup, 1) := by decide +kernel
theorem dX9_step_49 : decode cX9_step 49 = .ok (.getfield 32, 3) := by decide +kernel
theorem dX9_step_52 : decode cX9_step 52 = .ok (.iconst 1, 1) := by decide +kernel
theorem dX9_step_53 : decode cX9_step 53 = .ok (.iadd, 1) := by decide +kernel
theorem dX9_step_54 : decode cX9_step 54 = .ok (.putfield 32, 3) := by decide +kernel
theorem dX9_step_57 : decode cX9_step 57 = .ok (.goto (-49), 3) := by decide +kernel
theorem dX9_step_60 : decode cX9_step 60 = .ok (.aload_n 0, 1) := by decide +kernel
theorem dX9_step_61 : decode cX9_step 61 = .ok (.aload_n 0, 1) := by decide +kernel
theorem dX9_step_62 : decode cX9_step 62 = .ok (.getfield 32, 3) := by decide +kernel
theorem dX9_step_65 : decode cX9_step 65 = .ok (.putfield 26, 3) := by decide +kernel
theorem dX9_step_68 : decode cX9_step 68 = .ok (.aload_n 0, 1) := by decide +kernel
theorem dX9_step_69 : decode cX9_step 69 = .ok (.getfield 32, 3) := by decide +kernel
theorem dX9_step_72 : decode cX9_step 72 = .ok (.aload_n 0, 1) := by decide +kernel
theorem dX9_step_73 : decode cX9_step 73 = .ok (.getfield 22, 3) := by decide +kernel
theorem dX9_step_76 : decode cX9_step 76 = .ok (.if_icmp .lt 9, 3) := by decide +kernel
theorem dX9_step_79 : decode cX9_step 79 = .ok (.aload_n 0, 1) := by decide +kernel
theorem dX9_step_80 : decode cX9_step 80 = .ok (.iconst 0, 1) := by decide +kernel
theorem dX9_step_81 : decode cX9_step 81 = .ok (.putfield 35, 3) := by decide +kernel
theorem dX9_step_84 : decode cX9_step 84 = .ok (.return_, 1) := by decide +kernel
theorem dX9_step_85 : decode cX9_step 85 = .ok (.aload_n 0, 1) := by decide +kernel
theorem dX9_step_86 : decode cX9_step 86 = .ok (.aload_n 0, 1) := by decide +kernel
theorem dX9_step_87 : decode cX9_step 87 = .ok (.getfield 7, 3) := by decide +kernel
theorem dX9_step_90 : decode cX9_step 90 = .ok (.aload_n 0, 1) := by decide +kernel
theorem dX9_step_91 : decode cX9_step 91 = .ok (.getfield 32, 3) := by decide +kernel
theorem dX9_step_94 : decode cX9_step 94 = .ok (.baload, 1) := by decide +kernel
theorem dX9_step_95 : decode cX9_step 95 = .ok (.invokestatic 38, 3) := by decide +kernel
theorem dX9_step_98 : decode cX9_step 98 = .ok (.putfield 35, 3) := by decide +kernel
theorem dX9_step_101 : decode cX9_step 101 = .ok (.aload_n 0, 1) := by decide +kernel
theorem dX9_step_102 : decode cX9_step 102 = .ok (.dup, 1) := by decide +kernel
theorem dX9_step_103 : decode cX9_step 103 = .ok (.getfield 26, 3) := by decide +kernel
theorem dX9_step_106 : decode cX9_step 106 = .ok (.iconst 1, 1) := by decide +kernel
theorem dX9_step_107 : decode cX9_step 107 = .ok (.iadd, 1) := by decide +kernel
theorem dX9_step_108 : decode cX9_step 108 = .ok (.putfield 26, 3) := by decide +kernel
theorem dX9_step_111 : decode cX9_step 111 = .ok (.aload_n 0, 1) := by decide +kernel
theorem dX9_step_112 : decode cX9_step 112 = .ok (.getfield 35, 3) := by decide +kernel
theorem dX9_step_115 : decode cX9_step 115 = .ok (.iconst 1, 1) := by decide +kernel
theorem dX9_step_116 : decode cX9_step 116 = .ok (.if_icmp .eq 11, 3) := by decide +kernel
theorem dX9_step_119 : decode cX9_step 119 = .ok (.aload_n 0, 1) := by decide +kernel
theorem dX9_step_120 : decode cX9_step 120 = .ok (.getfield 35, 3) := by decide +kernel
theorem dX9_step_123 : decode cX9_step 123 = .ok (.iconst 2, 1) := by decide +kernel
theorem dX9_step_124 : decode cX9_step 124 = .ok (.if_icmp .ne 46, 3) := by decide +kernel
theorem dX9_step_127 : decode cX9_step 127 = .ok (.aload_n 0, 1) := by decide +kernel
theorem dX9_step_128 : decode cX9_step 128 = .ok (.getfield 26, 3) := by decide +kernel
theorem dX9_step_131 : decode cX9_step 131 = .ok (.aload_n 0, 1) := by decide +kernel
theorem dX9_step_132 : decode cX9_step 132 = .ok (.getfield 22, 3) := by decide +kernel
theorem dX9_step_135 : decode cX9_step 135 = .ok (.if_icmp .ge 35, 3) := by decide +kernel
theorem dX9_step_138 : decode cX9_step 138 = .ok (.aload_n 0, 1) := by decide +kernel
theorem dX9_step_139 : decode cX9_step 139 = .ok (.getfield 7, 3) := by decide +kernel
theorem dX9_step_142 : decode cX9_step 142 = .ok (.aload_n 0, 1) := by decide +kernel
theorem dX9_step_143 : decode cX9_step 143 = .ok (.getfield 26, 3) := by decide +kernel
theorem dX9_step_146 : decode cX9_step 146 = .ok (.baload, 1) := by decide +kernel
theorem dX9_step_147 : decode cX9_step 147 = .ok (.invokestatic 38, 3) := by decide +kernel
theorem dX9_step_150 : decode cX9_step 150 = .ok (.aload_n 0, 1) := by decide +kernel
theorem dX9_step_151 : decode cX9_step 151 = .ok (.getfield 35, 3) := by decide +kernel
theorem dX9_step_154 : decode cX9_step 154 = .ok (.if_icmp .ne 16, 3) := by decide +kernel
theorem dX9_step_157 : decode cX9_step 157 = .ok (.aload_n 0, 1) := by decide +kernel
theorem dX9_step_158 : decode cX9_step 158 = .ok (.dup, 1) := by decide +kernel
theorem dX9_step_159 : decode cX9_step 159 = .ok (.getfield 26, 3) := by decide +kernel
theorem dX9_step_162 : decode cX9_step 162 = .ok (.iconst 1, 1) := by decide +kernel
theorem dX9_step_163 : decode cX9_step 163 = .ok (.iadd, 1) := by decide +kernel
theorem dX9_step_164 : decode cX9_step 164 = .ok (.putfield 26, 3) := by decide +kernel
theorem dX9_step_167 : decode cX9_step 167 = .ok (.goto (-56), 3) := by decide +kernel
theorem dX9_step_170 : decode cX9_step 170 = .ok (.return_, 1) := by decide +kernel
theorem dX9_kindOf_0 : decode cX9_kindOf 0 = .ok (.iload_n 0, 1) := by decide +kernel
theorem dX9_kindOf_1 : decode cX9_kindOf 1 = .ok (.bipush 97, 2) := by decide +kernel
theorem dX9_kindOf_3 : decode cX9_kindOf 3 = .ok (.if_icmp .lt 11, 3) := by decide +kernel
theorem dX9_kindOf_6 : decode cX9_kindOf 6 = .ok (.iload_n 0, 1) := by decide +kernel
theorem dX9_kindOf_7 : decode cX9_kindOf 7 = .ok (.bipush 122, 2) := by decide +kernel
theorem dX9_kindOf_9 : decode cX9_kindOf 9 = .ok (.if_icmp .gt 5, 3) := by decide +kernel
theorem dX9_kindOf_12 : decode cX9_kindOf 12 = .ok (.iconst 1, 1) := by decide +kernel
theorem dX9_kindOf_13 : decode cX9_kindOf 13 = .ok (.ireturn, 1) := by decide +kernel
theorem dX9_kindOf_14 : decode cX9_kindOf 14 = .ok (.iload_n 0, 1) := by decide +kernel
theorem dX9_kindOf_15 : decode cX9_kindOf 15 = .ok (.bipush 48, 2) := by decide +kernel
theorem dX9_kindOf_17 : decode cX9_kindOf 17 = .ok (.if_icmp .lt 11, 3) := by decide +kernel
theorem dX9_kindOf_20 : decode cX9_kindOf 20 = .ok (.iload_n 0, 1) := by decide +kernel
theorem dX9_kindOf_21 : decode cX9_kindOf 21 = .ok (.bipush 57, 2) := by decide +kernel
theorem dX9_kindOf_23 : decode cX9_kindOf 23 = .ok (.if_icmp .gt 5, 3) := by decide +kernel
theorem dX9_kindOf_26 : decode cX9_kindOf 26 = .ok (.iconst 2, 1) := by decide +kernel
theorem dX9_kindOf_27 : decode cX9_kindOf 27 = .ok (.ireturn, 1) := by decide +kernel
theorem dX9_kindOf_28 : decode cX9_kindOf 28 = .ok (.iload_n 0, 1) := by decide +kernel
theorem dX9_kindOf_29 : decode cX9_kindOf 29 = .ok (.tableswitch 105 40 61 #[103, 103, 103, 103, 105, 103, 105, 103, 105, 105, 105, 105, 105, 105, 105, 105, 105, 105, 105, 103, 103, 103], 103) := by decide +kernel
theorem dX9_kindOf_132 : decode cX9_kindOf 132 = .ok (.iconst 3, 1) := by decide +kernel
theorem dX9_kindOf_133 : decode cX9_kindOf 133 = .ok (.ireturn, 1) := by decide +kernel
theorem dX9_kindOf_134 : decode cX9_kindOf 134 = .ok (.iconst 4, 1) := by decide +kernel
theorem dX9_kindOf_135 : decode cX9_kindOf 135 = .ok (.ireturn, 1) := by decide +kernel
theorem dX9_isWord_0 : decode cX9_isWord 0 = .ok (.aload_n 0, 1) := by decide +kernel
theorem dX9_isWord_1 : decode cX9_isWord 1 = .ok (.getfield 35, 3) := by decide +kernel
theorem dX9_isWord_4 : decode cX9_isWord 4 = .ok (.iconst 1, 1) := by decide +kernel
theorem dX9_isWord_5 : decode cX9_isWord 5 = .ok (.if_icmp .ne 19, 3) := by decide +kernel
theorem dX9_isWord_8 : decode cX9_isWord 8 = .ok (.aload_n 0, 1) := by decide +kernel
theorem dX9_isWord_9 : decode cX9_isWord 9 = .ok (.getfield 26, 3) := by decide +kernel
theorem dX9_isWord_12 : decode cX9_isWord 12 = .ok (.aload_n 0, 1) := by decide +kernel
theorem dX9_isWord_13 : decode cX9_isWord 13 = .ok (.getfield 32, 3) := by decide +kernel
theorem dX9_isWord_16 : decode cX9_isWord 16 = .ok (.isub, 1) := by decide +kernel
theorem dX9_isWord_17 : decode cX9_isWord 17 = .ok (.aload_n 1, 1) := by decide +kernel
theorem dX9_isWord_18 : decode cX9_isWord 18 = .ok (.invokevirtual 42, 3) := by decide +kernel
theorem dX9_isWord_21 : decode cX9_isWord 21 = .ok (.if_icmp .eq 5, 3) := by decide +kernel
theorem dX9_isWord_24 : decode cX9_isWord 24 = .ok (.iconst 0, 1) := by decide +kernel
theorem dX9_isWord_25 : decode cX9_isWord 25 = .ok (.ireturn, 1) := by decide +kernel
theorem dX9_isWord_26 : decode cX9_isWord 26 = .ok (.iconst 0, 1) := by decide +kernel
theorem dX9_isWord_27 : decode cX9_isWord 27 = .ok (.istore_n 2, 1) := by decide +kernel
theorem dX9_isWord_28 : decode cX9_isWord 28 = .ok (.iload_n 2, 1) := by decide +kernel
theorem dX9_isWord_29 : decode cX9_isWord 29 = .ok (.aload_n 1, 1) := by decide +kernel
theorem dX9_isWord_30 : decode cX9_isWord 30 = .ok (.invokevirtual 42, 3) := by decide +kernel
theorem dX9_isWord_33 : decode cX9_isWord 33 = .ok (.if_icmp .ge 30, 3) := by decide +kernel
theorem dX9_isWord_36 : decode cX9_isWord 36 = .ok (.aload_n 0, 1) := by decide +kernel
theorem dX9_isWord_37 : decode cX9_isWord 37 = .ok (.getfield 7, 3) := by decide +kernel
theorem dX9_isWord_40 : decode cX9_isWord 40 = .ok (.aload_n 0, 1) := by decide +kernel
theorem dX9_isWord_41 : decode cX9_isWord 41 = .ok (.getfield 32, 3) := by decide +kernel
theorem dX9_isWord_44 : decode cX9_isWord 44 = .ok (.iload_n 2, 1) := by decide +kernel
theorem dX9_isWord_45 : decode cX9_isWord 45 = .ok (.iadd, 1) := by decide +kernel
theorem dX9_isWord_46 : decode cX9_isWord 46 = .ok (.baload, 1) := by decide +kernel
theorem dX9_isWord_47 : decode cX9_isWord 47 = .ok (.aload_n 1, 1) := by decide +kernel
theorem dX9_isWord_48 : decode cX9_isWord 48 = .ok (.iload_n 2, 1) := by decide +kernel
theorem dX9_isWord_49 : decode cX9_isWord 49 = .ok (.invokevirtual 47, 3) := by decide +kernel
theorem dX9_isWord_52 : decode cX9_isWord 52 = .ok (.if_icmp .eq 5, 3) := by decide +kernel
theorem dX9_isWord_55 : decode cX9_isWord 55 = .ok (.iconst 0, 1) := by decide +kernel
theorem dX9_isWord_56 : decode cX9_isWord 56 = .ok (.ireturn, 1) := by decide +kernel
theorem dX9_isWord_57 : decode cX9_isWord 57 = .ok (.iinc 2 1, 3) := by decide +kernel
theorem dX9_isWord_60 : decode cX9_isWord 60 = .ok (.goto (-32), 3) := by decide +kernel
theorem dX9_isWord_63 : decode cX9_isWord 63 = .ok (.iconst 1, 1) := by decide +kernel
theorem dX9_isWord_64 : decode cX9_isWord 64 = .ok (.ireturn, 1) := by decide +kernel
theorem dX9_isSign_0 : decode cX9_isSign 0 = .ok (.aload_n 0, 1) := by decide +kernel
theorem dX9_isSign_1 : decode cX9_isSign 1 = .ok (.getfield 35, 3) := by decide +kernel
theorem dX9_isSign_4 : decode cX9_isSign 4 = .ok (.iconst 3, 1) := by decide +kernel
theorem dX9_isSign_5 : decode cX9_isSign 5 = .ok (.if_icmp .ne 31, 3) := by decide +kernel
theorem dX9_isSign_8 : decode cX9_isSign 8 = .ok (.aload_n 0, 1) := by decide +kernel
theorem dX9_isSign_9 : decode cX9_isSign 9 = .ok (.getfield 32, 3) := by decide +kernel
theorem dX9_isSign_12 : decode cX9_isSign 12 = .ok (.aload_n 0, 1) := by decide +kernel
theorem dX9_isSign_13 : decode cX9_isSign 13 = .ok (.getfield 22, 3) := by decide +kernel
theorem dX9_isSign_16 : decode cX9_isSign 16 = .ok (.if_icmp .ge 20, 3) := by decide +kernel
theorem dX9_isSign_19 : decode cX9_isSign 19 = .ok (.aload_n 0, 1) := by decide +kernel
theorem dX9_isSign_20 : decode cX9_isSign 20 = .ok (.getfield 7, 3) := by decide +kernel
theorem dX9_isSign_23 : decode cX9_isSign 23 = .ok (.aload_n 0, 1) := by decide +kernel
theorem dX9_isSign_24 : decode cX9_isSign 24 = .ok (.getfield 32, 3) := by decide +kernel
theorem dX9_isSign_27 : decode cX9_isSign 27 = .ok (.baload, 1) := by decide +kernel
theorem dX9_isSign_28 : decode cX9_isSign 28 = .ok (.iload_n 1, 1) := by decide +kernel
theorem dX9_isSign_29 : decode cX9_isSign 29 = .ok (.if_icmp .ne 7, 3) := by decide +kernel
theorem dX9_isSign_32 : decode cX9_isSign 32 = .ok (.iconst 1, 1) := by decide +kernel
theorem dX9_isSign_33 : decode cX9_isSign 33 = .ok (.goto 4, 3) := by decide +kernel
theorem dX9_isSign_36 : decode cX9_isSign 36 = .ok (.iconst 0, 1) := by decide +kernel
theorem dX9_isSign_37 : decode cX9_isSign 37 = .ok (.ireturn, 1) := by decide +kernel
theorem dX9_isShort_0 : decode cX9_isShort 0 = .ok (.aload_n 0, 1) := by decide +kernel
theorem dX9_isShort_1 : decode cX9_isShort 1 = .ok (.getfield 26, 3) := by decide +kernel
theorem dX9_isShort_4 : decode cX9_isShort 4 = .ok (.aload_n 0, 1) := by decide +kernel
theorem dX9_isShort_5 : decode cX9_isShort 5 = .ok (.getfield 32, 3) := by decide +kernel
theorem dX9_isShort_8 : decode cX9_isShort 8 = .ok (.isub, 1) := by decide +kernel
theorem dX9_isShort_9 : decode cX9_isShort 9 = .ok (.iconst 4, 1) := by decide +kernel
theorem dX9_isShort_10 : decode cX9_isShort 10 = .ok (.if_icmp .gt 7, 3) := by decide +kernel
theorem dX9_isShort_13 : decode cX9_isShort 13 = .ok (.iconst 1, 1) := by decide +kernel
theorem dX9_isShort_14 : decode cX9_isShort 14 = .ok (.goto 4, 3) := by decide +kernel
theorem dX9_isShort_17 : decode cX9_isShort 17 = .ok (.iconst 0, 1) := by decide +kernel
theorem dX9_isShort_18 : decode cX9_isShort 18 = .ok (.ireturn, 1) := by decide +kernel
theorem dX9_number_0 : decode cX9_number 0 = .ok (.iconst 0, 1) := by decide +kernel
theorem dX9_number_1 : decode cX9_number 1 = .ok (.istore_n 1, 1) := by decide +kernel
theorem dX9_number_2 : decode cX9_number 2 = .ok (.aload_n 0, 1) := by decide +kernel
theorem dX9_number_3 : decode cX9_number 3 = .ok (.getfield 32, 3) := by decide +kernel
theorem dX9_number_6 : decode cX9_number 6 = .ok (.istore_n 2, 1) := by decide +kernel
theorem dX9_number_7 : decode cX9_number 7 = .ok (.iload_n 2, 1) := by decide +kernel
theorem dX9_number_8 : decode cX9_number 8 = .ok (.aload_n 0, 1) := by decide +kernel
theorem dX9_number_9 : decode cX9_number 9 = .ok (.getfield 26, 3) := by decide +kernel
theorem dX9_number_12 : decode cX9_number 12 = .ok (.if_icmp .ge 34, 3) := by decide +kernel
theorem dX9_number_15 : decode cX9_number 15 = .ok (.iload_n 2, 1) := by decide +kernel
theorem dX9_number_16 : decode cX9_number 16 = .ok (.aload_n 0, 1) := by decide +kernel
theorem dX9_number_17 : decode cX9_number 17 = .ok (.getfield 32, 3) := by decide +kernel
theorem dX9_number_20 : decode cX9_number 20 = .ok (.iconst 4, 1) := by decide +kernel
theorem dX9_number_21 : decode cX9_number 21 = .ok (.iadd, 1) := by decide +kernel
theorem dX9_number_22 : decode cX9_number 22 = .ok (.if_icmp .ge 24, 3) := by decide +kernel
theorem dX9_number_25 : decode cX9_number 25 = .ok (.bipush 10, 2) := by decide +kernel
theorem dX9_number_27 : decode cX9_number 27 = .ok (.iload_n 1, 1) := by decide +kernel
theorem dX9_number_28 : decode cX9_number 28 = .ok (.imul, 1) := by decide +kernel
theorem dX9_number_29 : decode cX9_number 29 = .ok (.aload_n 0, 1) := by decide +kernel
theorem dX9_number_30 : decode cX9_number 30 = .ok (.getfield 7, 3) := by decide +kernel
theorem dX9_number_33 : decode cX9_number 33 = .ok (.iload_n 2, 1) := by decide +kernel
theorem dX9_number_34 : decode cX9_number 34 = .ok (.baload, 1) := by decide +kernel
theorem dX9_number_35 : decode cX9_number 35 = .ok (.iadd, 1) := by decide +kernel
theorem dX9_number_36 : decode cX9_number 36 = .ok (.bipush 48, 2) := by decide +kernel
theorem dX9_number_38 : decode cX9_number 38 = .ok (.isub, 1) := by decide +kernel
theorem dX9_number_39 : decode cX9_number 39 = .ok (.istore_n 1, 1) := by decide +kernel
theorem dX9_number_40 : decode cX9_number 40 = .ok (.iinc 2 1, 3) := by decide +kernel
theorem dX9_number_43 : decode cX9_number 43 = .ok (.goto (-36), 3) := by decide +kernel
theorem dX9_number_46 : decode cX9_number 46 = .ok (.iload_n 1, 1) := by decide +kernel
theorem dX9_number_47 : decode cX9_number 47 = .ok (.ireturn, 1) := by decide +kernel
theorem dX10_init_0 : decode cX10_init 0 = .ok (.aload_n 0, 1) := by decide +kernel
theorem dX10_init_1 : decode cX10_init 1 = .ok (.invokespecial 3, 3) := by decide +kernel
theorem dX10_init_4 : decode cX10_init 4 = .ok (.aload_n 0, 1) := by decide +kernel
theorem dX10_init_5 : decode cX10_init 5 = .ok (.bipush 6, 2) := by decide +kernel
theorem dX10_init_7 : decode cX10_init 7 = .ok (.newarray .int, 2) := by decide +kernel
theorem dX10_init_9 : decode cX10_init 9 = .ok (.putfield 9, 3) := by decide +kernel
theorem dX10_init_12 : decode cX10_init 12 = .ok (.aload_n 0, 1) := by decide +kernel
theorem dX10_init_13 : decode cX10_init 13 = .ok (.bipush 6, 2) := by decide +kernel
theorem dX10_init_15 : decode cX10_init 15 = .ok (.newarray .int, 2) := by decide +kernel
theorem dX10_init_17 : decode cX10_init 17 = .ok (.putfield 15, 3) := by decide +kernel
theorem dX10_init_20 : decode cX10_init 20 = .ok (.return_, 1) := by decide +kernel
theorem dX10_add_0 : decode cX10_add 0 = .ok (.aload_n 0, 1) := by decide +kernel
theorem dX10_add_1 : decode cX10_add 1 = .ok (.getfield 18, 3) := by decide +kernel
theorem dX10_add_4 : decode cX10_add 4 = .ok (.bipush 6, 2) := by decide +kernel
theorem dX10_add_6 : decode cX10_add 6 = .ok (.if_icmp .ge 33, 3) := by decide +kernel
theorem dX10_add_9 : decode cX10_add 9 = .ok (.aload_n 0, 1) := by decide +kernel
theorem dX10_add_10 : decode cX10_add 10 = .ok (.getfield 9, 3) := by decide +kernel
theorem dX10_add_13 : decode cX10_add 13 = .ok (.aload_n 0, 1) := by decide +kernel
theorem dX10_add_14 : decode cX10_add 14 = .ok (.getfield 18, 3) := by decide +kernel
theorem dX10_add_17 : decode cX10_add 17 = .ok (.iload_n 1, 1) := by decide +kernel
theorem dX10_add_18 : decode cX10_add 18 = .ok (.iastore, 1) := by decide +kernel
theorem dX10_add_19 : decode cX10_add 19 = .ok (.aload_n 0, 1) := by decide +kernel
theorem dX10_add_20 : decode cX10_add 20 = .ok (.getfield 15, 3) := by decide +kernel
theorem dX10_add_23 : decode cX10_add 23 = .ok (.aload_n 0, 1) := by decide +kernel
theorem dX10_add_24 : decode cX10_add 24 = .ok (.getfield 18, 3) := by decide +kernel
theorem dX10_add_27 : decode cX10_add 27 = .ok (.iload_n 2, 1) := by decide +kernel
theorem dX10_add_28 : decode cX10_add 28 = .ok (.iastore, 1) := by decide +kernel
theorem dX10_add_29 : decode cX10_add 29 = .ok (.aload_n 0, 1) := by decide +kernel
theorem dX10_add_30 : decode cX10_add 30 = .ok (.dup, 1) := by decide +kernel
theorem dX10_add_31 : decode cX10_add 31 = .ok (.getfield 18, 3) := by decide +kernel
theorem dX10_add_34 : decode cX10_add 34 = .ok (.iconst 1, 1) := by decide +kernel
theorem dX10_add_35 : decode cX10_add 35 = .ok (.iadd, 1) := by decide +kernel
theorem dX10_add_36 : decode cX10_add 36 = .ok (.putfield 18, 3) := by decide +kernel
theorem dX10_add_39 : decode cX10_add 39 = .ok (.return_, 1) := by decide +kernel
theorem dX10_putInOrder_0 : decode cX10_putInOrder 0 = .ok (.iconst 0, 1) := by decide +kernel
theorem dX10_putInOrder_1 : decode cX10_putInOrder 1 = .ok (.istore_n 2, 1) := by decide +kernel
theorem dX10_putInOrder_2 : decode cX10_putInOrder 2 = .ok (.iload_n 2, 1) := by decide +kernel
theorem dX10_putInOrder_3 : decode cX10_putInOrder 3 = .ok (.aload_n 0, 1) := by decide +kernel
theorem dX10_putInOrder_4 : decode cX10_putInOrder 4 = .ok (.getfield 18, 3) := by decide +kernel
theorem dX10_putInOrder_7 : decode cX10_putInOrder 7 = .ok (.if_icmp .ge 52, 3) := by decide +kernel
theorem dX10_putInOrder_10 : decode cX10_putInOrder 10 = .ok (.iload_n 2, 1) := by decide +kernel
theorem dX10_putInOrder_11 : decode cX10_putInOrder 11 = .ok (.aload_n 1, 1) := by decide +kernel
theorem dX10_putInOrder_12 : decode cX10_putInOrder 12 = .ok (.arraylength, 1) := by decide +kernel
theorem dX10_putInOrder_13 : decode cX10_putInOrder 13 = .ok (.if_icmp .ge 46, 3) := by decide +kernel
theorem dX10_putInOrder_16 : decode cX10_putInOrder 16 = .ok (.iload_n 2, 1) := by decide +kernel
theorem dX10_putInOrder_17 : decode cX10_putInOrder 17 = .ok (.istore_n 3, 1) := by decide +kernel
theorem dX10_putInOrder_18 : decode cX10_putInOrder 18 = .ok (.iload_n 3, 1) := by decide +kernel
theorem dX10_putInOrder_19 : decode cX10_putInOrder 19 = .ok (.ifCond .le 30, 3) := by decide +kernel
theorem dX10_putInOrder_22 : decode cX10_putInOrder 22 = .ok (.aload_n 0, 1) := by decide +kernel
theorem dX10_putInOrder_23 : decode cX10_putInOrder 23 = .ok (.iload_n 2, 1) := by decide +kernel
theorem dX10_putInOrder_24 : decode cX10_putInOrder 24 = .ok (.aload_n 1, 1) := by decide +kernel
theorem dX10_putInOrder_25 : decode cX10_putInOrder 25 = .ok (.iload_n 3, 1) := by decide +kernel
theorem dX10_putInOrder_26 : decode cX10_putInOrder 26 = .ok (.iconst 1, 1) := by decide +kernel
theorem dX10_putInOrder_27 : decode cX10_putInOrder 27 = .ok (.isub, 1) := by decide +kernel
theorem dX10_putInOrder_28 : decode cX10_putInOrder 28 = .ok (.iaload, 1) := by decide +kernel
theorem dX10_putInOrder_29 : decode cX10_putInOrder 29 = .ok (.invokevirtual 22, 3) := by decide +kernel
theorem dX10_putInOrder_32 : decode cX10_putInOrder 32 = .ok (.ifCond .eq 17, 3) := by decide +kernel
theorem dX10_putInOrder_35 : decode cX10_putInOrder 35 = .ok (.aload_n 1, 1) := by decide +kernel
theorem dX10_putInOrder_36 : decode cX10_putInOrder 36 = .ok (.iload_n 3, 1) := by decide +kernel
theorem dX10_putInOrder_37 : decode cX10_putInOrder 37 = .ok (.aload_n 1, 1) := by decide +kernel
theorem dX10_putInOrder_38 : decode cX10_putInOrder 38 = .ok (.iload_n 3, 1) := by decide +kernel
theorem dX10_putInOrder_39 : decode cX10_putInOrder 39 = .ok (.iconst 1, 1) := by decide +kernel
theorem dX10_putInOrder_40 : decode cX10_putInOrder 40 = .ok (.isub, 1) := by decide +kernel
theorem dX10_putInOrder_41 : decode cX10_putInOrder 41 = .ok (.iaload, 1) := by decide +kernel
theorem dX10_putInOrder_42 : decode cX10_putInOrder 42 = .ok (.iastore, 1) := by decide +kernel
theorem dX10_putInOrder_43 : decode cX10_putInOrder 43 = .ok (.iinc 3 (-1), 3) := by decide +kernel
theorem dX10_putInOrder_46 : decode cX10_putInOrder 46 = .ok (.goto (-28), 3) := by decide +kernel
theorem dX10_putInOrder_49 : decode cX10_putInOrder 49 = .ok (.aload_n 1, 1) := by decide +kernel
theorem dX10_putInOrder_50 : decode cX10_putInOrder 50 = .ok (.iload_n 3, 1) := by decide +kernel
theorem dX10_putInOrder_51 : decode cX10_putInOrder 51 = .ok (.iload_n 2, 1) := by decide +kernel
theorem dX10_putInOrder_52 : decode cX10_putInOrder 52 = .ok (.iastore, 1) := by decide +kernel
theorem dX10_putInOrder_53 : decode cX10_putInOrder 53 = .ok (.iinc 2 1, 3) := by decide +kernel
theorem dX10_putInOrder_56 : decode cX10_putInOrder 56 = .ok (.goto (-54), 3) := by decide +kernel
theorem dX10_putInOrder_59 : decode cX10_putInOrder 59 = .ok (.return_, 1) := by decide +kernel
theorem dX10_isCheaper_0 : decode cX10_isCheaper 0 = .ok (.aload_n 0, 1) := by decide +kernel
theorem dX10_isCheaper_1 : decode cX10_isCheaper 1 = .ok (.getfield 9, 3) := by decide +kernel
theorem dX10_isCheaper_4 : decode cX10_isCheaper 4 = .ok (.iload_n 1, 1) := by decide +kernel
theorem dX10_isCheaper_5 : decode cX10_isCheaper 5 = .ok (.iaload, 1) := by decide +kernel
theorem dX10_isCheaper_6 : decode cX10_isCheaper 6 = .ok (.aload_n 0, 1) := by decide +kernel
theorem dX10_isCheaper_7 : decode cX10_isCheaper 7 = .ok (.getfield 15, 3) := by decide +kernel
theorem dX10_isCheaper_10 : decode cX10_isCheaper 10 = .ok (.iload_n 2, 1) := by decide +kernel
theorem dX10_isCheaper_11 : decode cX10_isCheaper 11 = .ok (.iaload, 1) := by decide +kernel
theorem dX10_isCheaper_12 : decode cX10_isCheaper 12 = .ok (.imul, 1) := by decide +kernel
theorem dX10_isCheaper_13 : decode cX10_isCheaper 13 = .ok (.aload_n 0, 1) := by decide +kernel
theorem dX10_isCheaper_14 : decode cX10_isCheaper 14 = .ok (.getfield 9, 3) := by decide +kernel
theorem dX10_isCheaper_17 : decode cX10_isCheaper 17 = .ok (.iload_n 2, 1) := by decide +kernel
theorem dX10_isCheaper_18 : decode cX10_isCheaper 18 = .ok (.iaload, 1) := by decide +kernel
theorem dX10_isCheaper_19 : decode cX10_isCheaper 19 = .ok (.aload_n 0, 1) := by decide +kernel
theorem dX10_isCheaper_20 : decode cX10_isCheaper 20 = .ok (.getfield 15, 3) := by decide +kernel
theorem dX10_isCheaper_23 : decode cX10_isCheaper 23 = .ok (.iload_n 1, 1) := by decide +kernel
theorem dX10_isCheaper_24 : decode cX10_isCheaper 24 = .ok (.iaload, 1) := by decide +kernel
theorem dX10_isCheaper_25 : decode cX10_isCheaper 25 = .ok (.imul, 1) := by decide +kernel
theorem dX10_isCheaper_26 : decode cX10_isCheaper 26 = .ok (.if_icmp .ge 7, 3) := by decide +kernel
theorem dX10_isCheaper_29 : decode cX10_isCheaper 29 = .ok (.iconst 1, 1) := by decide +kernel
theorem dX10_isCheaper_30 : decode cX10_isCheaper 30 = .ok (.goto 4, 3) := by decide +kernel
theorem dX10_isCheaper_33 : decode cX10_isCheaper 33 = .ok (.iconst 0, 1) := by decide +kernel
theorem dX10_isCheaper_34 : decode cX10_isCheaper 34 = .ok (.ireturn, 1) := by decide +kernel
theorem dX11_init_0 : decode cX11_init 0 = .ok (.aload_n 0, 1) := by decide +kernel
theorem dX11_init_1 : decode cX11_init 1 = .ok (.invokespecial 1, 3) := by decide +kernel
theorem dX11_init_4 : decode cX11_init 4 = .ok (.aload_n 0, 1) := by decide +kernel
theorem dX11_init_5 : decode cX11_init 5 = .ok (.new 7, 3) := by decide +kernel
theorem dX11_init_8 : decode cX11_init 8 = .ok (.dup, 1) := by decide +kernel
theorem dX11_init_9 : decode cX11_init 9 = .ok (.invokespecial 9, 3) := by decide +kernel
theorem dX11_init_12 : decode cX11_init 12 = .ok (.putfield 10, 3) := by decide +kernel
theorem dX11_init_15 : decode cX11_init 15 = .ok (.aload_n 0, 1) := by decide +kernel
theorem dX11_init_16 : decode cX11_init 16 = .ok (.new 16, 3) := by decide +kernel
theorem dX11_init_19 : decode cX11_init 19 = .ok (.dup, 1) := by decide +kernel
theorem dX11_init_20 : decode cX11_init 20 = .ok (.invokespecial 18, 3) := by decide +kernel
theorem dX11_init_23 : decode cX11_init 23 = .ok (.putfield 19, 3) := by decide +kernel
theorem dX11_init_26 : decode cX11_init 26 = .ok (.aload_n 0, 1) := by decide +kernel
theorem dX11_init_27 : decode cX11_init 27 = .ok (.bipush 84, 2) := by decide +kernel
theorem dX11_init_29 : decode cX11_init 29 = .ok (.newarray .int, 2) := by decide +kernel
theorem dX11_init_31 : decode cX11_init 31 = .ok (.putfield 23, 3) := by decide +kernel
theorem dX11_init_34 : decode cX11_init 34 = .ok (.aload_n 0, 1) := by decide +kernel
theorem dX11_init_35 : decode cX11_init 35 = .ok (.bipush 6, 2) := by decide +kernel
theorem dX11_init_37 : decode cX11_init 37 = .ok (.newarray .int, 2) := by decide +kernel
theorem dX11_init_39 : decode cX11_init 39 = .ok (.putfield 27, 3) := by decide +kernel
theorem dX11_init_42 : decode cX11_init 42 = .ok (.aload_n 0, 1) := by decide +kernel
theorem dX11_init_43 : decode cX11_init 43 = .ok (.new 30, 3) := by decide +kernel
theorem dX11_init_46 : decode cX11_init 46 = .ok (.dup, 1) := by decide +kernel
theorem dX11_init_47 : decode cX11_init 47 = .ok (.invokespecial 32, 3) := by decide +kernel
theorem dX11_init_50 : decode cX11_init 50 = .ok (.putfield 33, 3) := by decide +kernel
theorem dX11_init_53 : decode cX11_init 53 = .ok (.aload_n 0, 1) := by decide +kernel
theorem dX11_init_54 : decode cX11_init 54 = .ok (.new 30, 3) := by decide +kernel
theorem dX11_init_57 : decode cX11_init 57 = .ok (.dup, 1) := by decide +kernel
theorem dX11_init_58 : decode cX11_init 58 = .ok (.invokespecial 32, 3) := by decide +kernel
theorem dX11_init_61 : decode cX11_init 61 = .ok (.putfield 37, 3) := by decide +kernel
theorem dX11_init_64 : decode cX11_init 64 = .ok (.aload_n 0, 1) := by decide +kernel
theorem dX11_init_65 : decode cX11_init 65 = .ok (.iconst (-1), 1) := by decide +kernel
theorem dX11_init_66 : decode cX11_init 66 = .ok (.putfield 40, 3) := by decide +kernel
theorem dX11_init_69 : decode cX11_init 69 = .ok (.aload_n 0, 1) := by decide +kernel
theorem dX11_init_70 : decode cX11_init 70 = .ok (.new 44, 3) := by decide +kernel
theorem dX11_init_73 : decode cX11_init 73 = .ok (.dup, 1) := by decide +kernel
theorem dX11_init_74 : decode cX11_init 74 = .ok (.aload_n 0, 1) := by decide +kernel
theorem dX11_init_75 : decode cX11_init 75 = .ok (.getfield 10, 3) := by decide +kernel
theorem dX11_init_78 : decode cX11_init 78 = .ok (.getfield 46, 3) := by decide +kernel
theorem dX11_init_81 : decode cX11_init 81 = .ok (.aload_n 0, 1) := by decide +kernel
theorem dX11_init_82 : decode cX11_init 82 = .ok (.getfield 37, 3) := by decide +kernel
theorem dX11_init_85 : decode cX11_init 85 = .ok (.invokespecial 50, 3) := by decide +kernel
theorem dX11_init_88 : decode cX11_init 88 = .ok (.putfield 53, 3) := by decide +kernel
theorem dX11_init_91 : decode cX11_init 91 = .ok (.aload_n 0, 1) := by decide +kernel
theorem dX11_init_92 : decode cX11_init 92 = .ok (.aload_n 0, 1) := by decide +kernel
theorem dX11_init_93 : decode cX11_init 93 = .ok (.getfield 33, 3) := by decide +kernel
theorem dX11_init_96 : decode cX11_init 96 = .ok (.invokestatic 57, 3) := by decide +kernel
theorem dX11_init_99 : decode cX11_init 99 = .ok (.putfield 63, 3) := by decide +kernel
theorem dX11_init_102 : decode cX11_init 102 = .ok (.return_, 1) := by decide +kernel
theorem dX11_feed_0 : decode cX11_feed 0 = .ok (.aload_n 0, 1) := by decide +kernel
theorem dX11_feed_1 : decode cX11_feed 1 = .ok (.getfield 10, 3) := by decide +kernel
theorem dX11_feed_4 : decode cX11_feed 4 = .ok (.invokevirtual 67, 3) := by decide +kernel
theorem dX11_feed_7 : decode cX11_feed 7 = .ok (.ifCond .ne 5, 3) := by decide +kernel
theorem dX11_feed_10 : decode cX11_feed 10 = .ok (.iconst (-1), 1) := by decide +kernel
theorem dX11_feed_11 : decode cX11_feed 11 = .ok (.ireturn, 1) := by decide +kernel
theorem dX11_feed_12 : decode cX11_feed 12 = .ok (.aload_n 0, 1) := by decide +kernel
theorem dX11_feed_13 : decode cX11_feed 13 = .ok (.getfield 10, 3) := by decide +kernel
theorem dX11_feed_16 : decode cX11_feed 16 = .ok (.iload_n 1, 1) := by decide +kernel
theorem dX11_feed_17 : decode cX11_feed 17 = .ok (.invokevirtual 71, 3) := by decide +kernel
theorem dX11_feed_20 : decode cX11_feed 20 = .ok (.aload_n 0, 1) := by decide +kernel
theorem dX11_feed_21 : decode cX11_feed 21 = .ok (.getfield 10, 3) := by decide +kernel
theorem dX11_feed_24 : decode cX11_feed 24 = .ok (.iload_n 2, 1) := by decide +kernel
theorem dX11_feed_25 : decode cX11_feed 25 = .ok (.invokevirtual 71, 3) := by decide +kernel
theorem dX11_feed_28 : decode cX11_feed 28 = .ok (.aload_n 0, 1) := by decide +kernel
theorem dX11_feed_29 : decode cX11_feed 29 = .ok (.getfield 10, 3) := by decide +kernel
theorem dX11_feed_32 : decode cX11_feed 32 = .ok (.iload_n 3, 1) := by decide +kernel
theorem dX11_feed_33 : decode cX11_feed 33 = .ok (.invokevirtual 71, 3) := by decide +kernel
theorem dX11_feed_36 : decode cX11_feed 36 = .ok (.aload_n 0, 1) := by decide +kernel
theorem dX11_feed_37 : decode cX11_feed 37 = .ok (.getfield 10, 3) := by decide +kernel
theorem dX11_feed_40 : decode cX11_feed 40 = .ok (.iload 4, 2) := by decide +kernel
theorem dX11_feed_42 : decode cX11_feed 42 = .ok (.invokevirtual 71, 3) := by decide +kernel
theorem dX11_feed_45 : decode cX11_feed 45 = .ok (.aload_n 0, 1) := by decide +kernel
theorem dX11_feed_46 : decode cX11_feed 46 = .ok (.getfield 10, 3) := by decide +kernel
theorem dX11_feed_49 : decode cX11_feed 49 = .ok (.iload 5, 2) := by decide +kernel
theorem dX11_feed_51 : decode cX11_feed 51 = .ok (.invokevirtual 71, 3) := by decide +kernel
theorem dX11_feed_54 : decode cX11_feed 54 = .ok (.aload_n 0, 1) := by decide +kernel
theorem dX11_feed_55 : decode cX11_feed 55 = .ok (.getfield 10, 3) := by decide +kernel
theorem dX11_feed_58 : decode cX11_feed 58 = .ok (.getfield 75, 3) := by decide +kernel
theorem dX11_feed_61 : decode cX11_feed 61 = .ok (.ireturn, 1) := by decide +kernel
theorem dX11_shed_0 : decode cX11_shed 0 = .ok (.iload_n 1, 1) := by decide +kernel
theorem dX11_shed_1 : decode cX11_shed 1 = .ok (.iconst 0, 1) := by decide +kernel
theorem dX11_shed_2 : decode cX11_shed 2 = .ok (.aload_n 0, 1) := by decide +kernel
theorem dX11_shed_3 : decode cX11_shed 3 = .ok (.getfield 10, 3) := by decide +kernel
theorem dX11_shed_6 : decode cX11_shed 6 = .ok (.getfield 75, 3) := by decide +kernel
theorem dX11_shed_9 : decode cX11_shed 9 = .ok (.invokestatic 78, 3) := by decide +kernel
theorem dX11_shed_12 : decode cX11_shed 12 = .ok (.invokestatic 82, 3) := by decide +kernel
theorem dX11_shed_15 : decode cX11_shed 15 = .ok (.aload_n 0, 1) := by decide +kernel
theorem dX11_shed_16 : decode cX11_shed 16 = .ok (.getfield 10, 3) := by decide +kernel
theorem dX11_shed_19 : decode cX11_shed 19 = .ok (.iconst 0, 1) := by decide +kernel
theorem dX11_shed_20 : decode cX11_shed 20 = .ok (.putfield 75, 3) := by decide +kernel
theorem dX11_shed_23 : decode cX11_shed 23 = .ok (.aload_n 0, 1) := by decide +kernel
theorem dX11_shed_24 : decode cX11_shed 24 = .ok (.getfield 53, 3) := by decide +kernel
theorem dX11_shed_27 : decode cX11_shed 27 = .ok (.iload_n 1, 1) := by decide +kernel
theorem dX11_shed_28 : decode cX11_shed 28 = .ok (.aload_n 0, 1) := by decide +kernel
theorem dX11_shed_29 : decode cX11_shed 29 = .ok (.getfield 37, 3) := by decide +kernel
theorem dX11_shed_32 : decode cX11_shed 32 = .ok (.invokevirtual 86, 3) := by decide +kernel
theorem dX11_shed_35 : decode cX11_shed 35 = .ok (.istore_n 2, 1) := by decide +kernel
theorem dX11_shed_36 : decode cX11_shed 36 = .ok (.iload_n 2, 1) := by decide +kernel
theorem dX11_shed_37 : decode cX11_shed 37 = .ok (.ifCond .eq 26, 3) := by decide +kernel
theorem dX11_shed_40 : decode cX11_shed 40 = .ok (.aload_n 0, 1) := by decide +kernel
theorem dX11_shed_41 : decode cX11_shed 41 = .ok (.aload_n 0, 1) := by decide +kernel
theorem dX11_shed_42 : decode cX11_shed 42 = .ok (.getfield 53, 3) := by decide +kernel
theorem dX11_shed_45 : decode cX11_shed 45 = .ok (.getfield 90, 3) := by decide +kernel
theorem dX11_shed_48 : decode cX11_shed 48 = .ok (.putfield 40, 3) := by decide +kernel
theorem dX11_shed_51 : decode cX11_shed 51 = .ok (.aload_n 0, 1) := by decide +kernel
theorem dX11_shed_52 : decode cX11_shed 52 = .ok (.dup, 1) := by decide +kernel
theorem dX11_shed_53 : decode cX11_shed 53 = .ok (.getfield 93, 3) := by decide +kernel
theorem dX11_shed_56 : decode cX11_shed 56 = .ok (.iconst 1, 1) := by decide +kernel
theorem dX11_shed_57 : decode cX11_shed 57 = .ok (.iadd, 1) := by decide +kernel
theorem dX11_shed_58 : decode cX11_shed 58 = .ok (.putfield 93, 3) := by decide +kernel
theorem dX11_shed_61 : decode cX11_shed 61 = .ok (.iload_n 2, 1) := by decide +kernel
theorem dX11_shed_62 : decode cX11_shed 62 = .ok (.ireturn, 1) := by decide +kernel
theorem dX11_shed_63 : decode cX11_shed 63 = .ok (.aload_n 0, 1) := by decide +kernel
theorem dX11_shed_64 : decode cX11_shed 64 = .ok (.iconst (-1), 1) := by decide +kernel
theorem dX11_shed_65 : decode cX11_shed 65 = .ok (.putfield 40, 3) := by decide +kernel
theorem dX11_shed_68 : decode cX11_shed 68 = .ok (.aload_n 0, 1) := by decide +kernel
theorem dX11_shed_69 : decode cX11_shed 69 = .ok (.invokevirtual 96, 3) := by decide +kernel
theorem dX11_shed_72 : decode cX11_shed 72 = .ok (.iconst 0, 1) := by decide +kernel
theorem dX11_shed_73 : decode cX11_shed 73 = .ok (.ireturn, 1) := by decide +kernel
theorem dX11_beginAnew_0 : decode cX11_beginAnew 0 = .ok (.aload_n 0, 1) := by decide +kernel
theorem dX11_beginAnew_1 : decode cX11_beginAnew 1 = .ok (.getfield 37, 3) := by decide +kernel
theorem dX11_beginAnew_4 : decode cX11_beginAnew 4 = .ok (.astore_n 1, 1) := by decide +kernel
theorem dX11_beginAnew_5 : decode cX11_beginAnew 5 = .ok (.aload_n 0, 1) := by decide +kernel
theorem dX11_beginAnew_6 : decode cX11_beginAnew 6 = .ok (.aload_n 0, 1) := by decide +kernel
theorem dX11_beginAnew_7 : decode cX11_beginAnew 7 = .ok (.getfield 33, 3) := by decide +kernel
theorem dX11_beginAnew_10 : decode cX11_beginAnew 10 = .ok (.putfield 37, 3) := by decide +kernel
theorem dX11_beginAnew_13 : decode cX11_beginAnew 13 = .ok (.aload_n 0, 1) := by decide +kernel
theorem dX11_beginAnew_14 : decode cX11_beginAnew 14 = .ok (.aload_n 1, 1) := by decide +kernel
theorem dX11_beginAnew_15 : decode cX11_beginAnew 15 = .ok (.putfield 33, 3) := by decide +kernel
theorem dX11_beginAnew_18 : decode cX11_beginAnew 18 = .ok (.aload_n 0, 1) := by decide +kernel
theorem dX11_beginAnew_19 : decode cX11_beginAnew 19 = .ok (.aload_n 0, 1) := by decide +kernel
theorem dX11_beginAnew_20 : decode cX11_beginAnew 20 = .ok (.getfield 33, 3) := by decide +kernel
theorem dX11_beginAnew_23 : decode cX11_beginAnew 23 = .ok (.invokestatic 57, 3) := by decide +kernel
theorem dX11_beginAnew_26 : decode cX11_beginAnew 26 = .ok (.putfield 63, 3) := by decide +kernel
theorem dX11_beginAnew_29 : decode cX11_beginAnew 29 = .ok (.aload_n 0, 1) := by decide +kernel
theorem dX11_beginAnew_30 : decode cX11_beginAnew 30 = .ok (.iconst 0, 1) := by decide +kernel
theorem dX11_beginAnew_31 : decode cX11_beginAnew 31 = .ok (.putfield 99, 3) := by decide +kernel
theorem dX11_beginAnew_34 : decode cX11_beginAnew 34 = .ok (.aload_n 0, 1) := by decide +kernel
theorem dX11_beginAnew_35 : decode cX11_beginAnew 35 = .ok (.aconst_null, 1) := by decide +kernel
theorem dX11_beginAnew_36 : decode cX11_beginAnew 36 = .ok (.putfield 102, 3) := by decide +kernel
theorem dX11_beginAnew_39 : decode cX11_beginAnew 39 = .ok (.aload_n 0, 1) := by decide +kernel
theorem dX11_beginAnew_40 : decode cX11_beginAnew 40 = .ok (.iconst 0, 1) := by decide +kernel
theorem dX11_beginAnew_41 : decode cX11_beginAnew 41 = .ok (.putfield 105, 3) := by decide +kernel
theorem dX11_beginAnew_44 : decode cX11_beginAnew 44 = .ok (.aload_n 0, 1) := by decide +kernel
theorem dX11_beginAnew_45 : decode cX11_beginAnew 45 = .ok (.iconst 0, 1) := by decide +kernel
theorem dX11_beginAnew_46 : decode cX11_beginAnew 46 = .ok (.putfield 108, 3) := by decide +kernel
theorem dX11_beginAnew_49 : decode cX11_beginAnew 49 = .ok (.aload_n 0, 1) := by decide +kernel
theorem dX11_beginAnew_50 : decode cX11_beginAnew 50 = .ok (.getfield 19, 3) := by decide +kernel
theorem dX11_beginAnew_53 : decode cX11_beginAnew 53 = .ok (.invokevirtual 112, 3) := by decide +kernel
theorem dX11_beginAnew_56 : decode cX11_beginAnew 56 = .ok (.return_, 1) := by decide +kernel
theorem dX11_fault_0 : decode cX11_fault 0 = .ok (.aload_n 0, 1) := by decide +kernel
theorem dX11_fault_1 : decode cX11_fault 1 = .ok (.getfield 40, 3) := by decide +kernel
theorem dX11_fault_4 : decode cX11_fault 4 = .ok (.ireturn, 1) := by decide +kernel
theorem dX11_count_0 : decode cX11_count 0 = .ok (.iload_n 1, 1) := by decide +kernel
theorem dX11_count_1 : decode cX11_count 1 = .ok (.iconst 0, 1) := by decide +kernel
theorem dX11_count_2 : decode cX11_count 2 = .ok (.bipush 7, 2) := by decide +kernel
theorem dX11_count_4 : decode cX11_count 4 = .ok (.invokestatic 78, 3) := by decide +kernel
theorem dX11_count_7 : decode cX11_count 7 = .ok (.ifCond .eq 13, 3) := by decide +kernel
theorem dX11_count_10 : decode cX11_count 10 = .ok (.aload_n 0, 1) := by decide +kernel
theorem dX11_count_11 : decode cX11_count 11 = .ok (.getfield 33, 3) := by decide +kernel
theorem dX11_count_14 : decode cX11_count 14 = .ok (.getfield 115, 3) := by decide +kernel
theorem dX11_count_17 : decode cX11_count 17 = .ok (.iload_n 1, 1) := by decide +kernel
theorem dX11_count_18 : decode cX11_count 18 = .ok (.iaload, 1) := by decide +kernel
theorem dX11_count_19 : decode cX11_count 19 = .ok (.ireturn, 1) := by decide +kernel
theorem dX11_count_20 : decode cX11_count 20 = .ok (.iload_n 1, 1) := by decide +kernel
theorem dX11_count_21 : decode cX11_count 21 = .ok (.bipush 11, 2) := by decide +kernel
theorem dX11_count_23 : decode cX11_count 23 = .ok (.bipush 14, 2) := by decide +kernel
theorem dX11_count_25 : decode cX11_count 25 = .ok (.invokestatic 78, 3) := by decide +kernel
theorem dX11_count_28 : decode cX11_count 28 = .ok (.ifCond .eq 16, 3) := by decide +kernel
theorem dX11_count_31 : decode cX11_count 31 = .ok (.aload_n 0, 1) := by decide +kernel
theorem dX11_count_32 : decode cX11_count 32 = .ok (.getfield 33, 3) := by decide +kernel
theorem dX11_count_35 : decode cX11_count 35 = .ok (.getfield 118, 3) := by decide +kernel
theorem dX11_count_38 : decode cX11_count 38 = .ok (.iload_n 1, 1) := by decide +kernel
theorem dX11_count_39 : decode cX11_count 39 = .ok (.bipush 11, 2) := by decide +kernel
theorem dX11_count_41 : decode cX11_count 41 = .ok (.isub, 1) := by decide +kernel
theorem dX11_count_42 : decode cX11_count 42 = .ok (.iaload, 1) := by decide +kernel
theorem dX11_count_43 : decode cX11_count 43 = .ok (.ireturn, 1) := by decide +kernel
theorem dX11_count_44 : decode cX11_count 44 = .ok (.iload_n 1, 1) := by decide +kernel
theorem dX11_count_45 : decode cX11_count 45 = .ok (.tableswitch 139 8 20 #[67, 78, 89, 139, 139, 139, 139, 100, 108, 116, 121, 129, 134], 67) := by decide +kernel
theorem dX11_count_112 : decode cX11_count 112 = .ok (.aload_n 0, 1) := by decide +kernel
theorem dX11_count_113 : decode cX11_count 113 = .ok (.getfield 33, 3) := by decide +kernel
theorem dX11_count_116 : decode cX11_count 116 = .ok (.getfield 121, 3) := by decide +kernel
theorem dX11_count_119 : decode cX11_count 119 = .ok (.getfield 125, 3) := by decide +kernel
theorem dX11_count_122 : decode cX11_count 122 = .ok (.ireturn, 1) := by decide +kernel
theorem dX11_count_123 : decode cX11_count 123 = .ok (.aload_n 0, 1) := by decide +kernel
theorem dX11_count_124 : decode cX11_count 124 = .ok (.getfield 33, 3) := by decide +kernel
theorem dX11_count_127 : decode cX11_count 127 = .ok (.getfield 130, 3) := by decide +kernel
theorem dX11_count_130 : decode cX11_count 130 = .ok (.getfield 134, 3) := by decide +kernel
theorem dX11_count_133 : decode cX11_count 133 = .ok (.ireturn, 1) := by decide +kernel
theorem dX11_count_134 : decode cX11_count 134 = .ok (.aload_n 0, 1) := by decide +kernel
theorem dX11_count_135 : decode cX11_count 135 = .ok (.getfield 33, 3) := by decide +kernel
theorem dX11_count_138 : decode cX11_count 138 = .ok (.getfield 137, 3) := by decide +kernel
theorem dX11_count_141 : decode cX11_count 141 = .ok (.getfield 141, 3) := by decide +kernel
theorem dX11_count_144 : decode cX11_count 144 = .ok (.ireturn, 1) := by decide +kernel
theorem dX11_count_145 : decode cX11_count 145 = .ok (.aload_n 0, 1) := by decide +kernel
theorem dX11_count_146 : decode cX11_count 146 = .ok (.getfield 63, 3) := by decide +kernel
theorem dX11_count_149 : decode cX11_count 149 = .ok (.getfield 144, 3) := by decide +kernel
theorem dX11_count_152 : decode cX11_count 152 = .ok (.ireturn, 1) := by decide +kernel
theorem dX11_count_153 : decode cX11_count 153 = .ok (.aload_n 0, 1) := by decide +kernel
theorem dX11_count_154 : decode cX11_count 154 = .ok (.getfield 63, 3) := by decide +kernel
theorem dX11_count_157 : decode cX11_count 157 = .ok (.getfield 147, 3) := by decide +kernel
theorem dX11_count_160 : decode cX11_count 160 = .ok (.ireturn, 1) := by decide +kernel
theorem dX11_count_161 : decode cX11_count 161 = .ok (.aload_n 0, 1) := by decide +kernel
theorem dX11_count_162 : decode cX11_count 162 = .ok (.getfield 99, 3) := by decide +kernel
theorem dX11_count_165 : decode cX11_count 165 = .ok (.ireturn, 1) := by decide +kernel
theorem dX11_count_166 : decode cX11_count 166 = .ok (.aload_n 0, 1) := by decide +kernel
theorem dX11_count_167 : decode cX11_count 167 = .ok (.getfield 10, 3) := by decide +kernel
theorem dX11_count_170 : decode cX11_count 170 = .ok (.getfield 75, 3) := by decide +kernel
theorem dX11_count_173 : decode cX11_count 173 = .ok (.ireturn, 1) := by decide +kernel
theorem dX11_count_174 : decode cX11_count 174 = .ok (.aload_n 0, 1) := by decide +kernel
theorem dX11_count_175 : decode cX11_count 175 = .ok (.getfield 93, 3) := by decide +kernel
theorem dX11_count_178 : decode cX11_count 178 = .ok (.ireturn, 1) := by decide +kernel
theorem dX11_count_179 : decode cX11_count 179 = .ok (.aload_n 0, 1) := by decide +kernel
theorem dX11_count_180 : decode cX11_count 180 = .ok (.getfield 150, 3) := by decide +kernel
theorem dX11_count_183 : decode cX11_count 183 = .ok (.ireturn, 1) := by decide +kernel
theorem dX11_count_184 : decode cX11_count 184 = .ok (.new 153, 3) := by decide +kernel
theorem dX11_count_187 : decode cX11_count 187 = .ok (.dup, 1) := by decide +kernel
theorem dX11_count_188 : decode cX11_count 188 = .ok (.ldc 155, 2) := by decide +kernel
theorem dX11_count_190 : decode cX11_count 190 = .ok (.invokespecial 157, 3) := by decide +kernel
theorem dX11_count_193 : decode cX11_count 193 = .ok (.athrow, 1) := by decide +kernel
theorem dX11_hole_0 : decode cX11_hole 0 = .ok (.aload_n 0, 1) := by decide +kernel
theorem dX11_hole_1 : decode cX11_hole 1 = .ok (.iload_n 1, 1) := by decide +kernel
theorem dX11_hole_2 : decode cX11_hole 2 = .ok (.invokevirtual 160, 3) := by decide +kernel
theorem dX11_hole_5 : decode cX11_hole 5 = .ok (.iload_n 2, 1) := by decide +kernel
theorem dX11_hole_6 : decode cX11_hole 6 = .ok (.tableswitch 105 0 4 #[34, 47, 60, 73, 93], 34) := by decide +kernel
theorem dX11_hole_40 : decode cX11_hole 40 = .ok (.aload_n 0, 1) := by decide +kernel
theorem dX11_hole_41 : decode cX11_hole 41 = .ok (.getfield 33, 3) := by decide +kernel
theorem dX11_hole_44 : decode cX11_hole 44 = .ok (.getfield 121, 3) := by decide +kernel
theorem dX11_hole_47 : decode cX11_hole 47 = .ok (.getfield 163, 3) := by decide +kernel
theorem dX11_hole_50 : decode cX11_hole 50 = .ok (.iload_n 1, 1) := by decide +kernel
theorem dX11_hole_51 : decode cX11_hole 51 = .ok (.iaload, 1) := by decide +kernel
theorem dX11_hole_52 : decode cX11_hole 52 = .ok (.ireturn, 1) := by decide +kernel
theorem dX11_hole_53 : decode cX11_hole 53 = .ok (.aload_n 0, 1) := by decide +kernel
theorem dX11_hole_54 : decode cX11_hole 54 = .ok (.getfield 33, 3) := by decide +kernel
theorem dX11_hole_57 : decode cX11_hole 57 = .ok (.getfield 121, 3) := by decide +kernel
theorem dX11_hole_60 : decode cX11_hole 60 = .ok (.getfield 166, 3) := by decide +kernel
theorem dX11_hole_63 : decode cX11_hole 63 = .ok (.iload_n 1, 1) := by decide +kernel
theorem dX11_hole_64 : decode cX11_hole 64 = .ok (.iaload, 1) := by decide +kernel
theorem dX11_hole_65 : decode cX11_hole 65 = .ok (.ireturn, 1) := by decide +kernel
theorem dX11_hole_66 : decode cX11_hole 66 = .ok (.aload_n 0, 1) := by decide +kernel
theorem dX11_hole_67 : decode cX11_hole 67 = .ok (.getfield 33, 3) := by decide +kernel
theorem dX11_hole_70 : decode cX11_hole 70 = .ok (.getfield 121, 3) := by decide +kernel
theorem dX11_hole_73 : decode cX11_hole 73 = .ok (.getfield 169, 3) := by decide +kernel
theorem dX11_hole_76 : decode cX11_hole 76 = .ok (.iload_n 1, 1) := by decide +kernel
theorem dX11_hole_77 : decode cX11_hole 77 = .ok (.iaload, 1) := by decide +kernel
theorem dX11_hole_78 : decode cX11_hole 78 = .ok (.ireturn, 1) := by decide +kernel
theorem dX11_hole_79 : decode cX11_hole 79 = .ok (.aload_n 0, 1) := by decide +kernel
theorem dX11_hole_80 : decode cX11_hole 80 = .ok (.getfield 33, 3) := by decide +kernel
theorem dX11_hole_83 : decode cX11_hole 83 = .ok (.getfield 121, 3) := by decide +kernel
theorem dX11_hole_86 : decode cX11_hole 86 = .ok (.iload_n 1, 1) := by decide +kernel
theorem dX11_hole_87 : decode cX11_hole 87 = .ok (.invokevirtual 172, 3) := by decide +kernel
theorem dX11_hole_90 : decode cX11_hole 90 = .ok (.ifCond .eq 7, 3) := by decide +kernel
theorem dX11_hole_93 : decode cX11_hole 93 = .ok (.iconst 1, 1) := by decide +kernel
theorem dX11_hole_94 : decode cX11_hole 94 = .ok (.goto 4, 3) := by decide +kernel
theorem dX11_hole_97 : decode cX11_hole 97 = .ok (.iconst 0, 1) := by decide +kernel
theorem dX11_hole_98 : decode cX11_hole 98 = .ok (.ireturn, 1) := by decide +kernel
theorem dX11_hole_99 : decode cX11_hole 99 = .ok (.aload_n 0, 1) := by decide +kernel
theorem dX11_hole_100 : decode cX11_hole 100 = .ok (.getfield 63, 3) := by decide +kernel
theorem dX11_hole_103 : decode cX11_hole 103 = .ok (.getfield 176, 3) := by decide +kernel
theorem dX11_hole_106 : decode cX11_hole 106 = .ok (.iload_n 1, 1) := by decide +kernel
theorem dX11_hole_107 : decode cX11_hole 107 = .ok (.ishr, 1) := by decide +kernel
theorem dX11_hole_108 : decode cX11_hole 108 = .ok (.iconst 1, 1) := by decide +kernel
theorem dX11_hole_109 : decode cX11_hole 109 = .ok (.iand, 1) := by decide +kernel
theorem dX11_hole_110 : decode cX11_hole 110 = .ok (.ireturn, 1) := by decide +kernel
theorem dX11_hole_111 : decode cX11_hole 111 = .ok (.new 153, 3) := by decide +kernel
theorem dX11_hole_114 : decode cX11_hole 114 = .ok (.dup, 1) := by decide +kernel
theorem dX11_hole_115 : decode cX11_hole 115 = .ok (.ldc 179, 2) := by decide +kernel
theorem dX11_hole_117 : decode cX11_hole 117 = .ok (.invokespecial 157, 3) := by decide +kernel
theorem dX11_hole_120 : decode cX11_hole 120 = .ok (.athrow, 1) := by decide +kernel
theorem dX11_leak_0 : decode cX11_leak 0 = .ok (.aload_n 0, 1) := by decide +kernel
theorem dX11_leak_1 : decode cX11_leak 1 = .ok (.getfield 33, 3) := by decide +kernel
theorem dX11_leak_4 : decode cX11_leak 4 = .ok (.aload_n 0, 1) := by decide +kernel
theorem dX11_leak_5 : decode cX11_leak 5 = .ok (.iload_n 1, 1) := by decide +kernel
theorem dX11_leak_6 : decode cX11_leak 6 = .ok (.invokevirtual 181, 3) := by decide +kernel
theorem dX11_leak_9 : decode cX11_leak 9 = .ok (.aload_n 0, 1) := by decide +kernel
theorem dX11_leak_10 : decode cX11_leak 10 = .ok (.getfield 63, 3) := by decide +kernel
theorem dX11_leak_13 : decode cX11_leak 13 = .ok (.getfield 144, 3) := by decide +kernel
theorem dX11_leak_16 : decode cX11_leak 16 = .ok (.aload_n 0, 1) := by decide +kernel
theorem dX11_leak_17 : decode cX11_leak 17 = .ok (.getfield 63, 3) := by decide +kernel
theorem dX11_leak_20 : decode cX11_leak 20 = .ok (.getfield 147, 3) := by decide +kernel
theorem dX11_leak_23 : decode cX11_leak 23 = .ok (.iload_n 1, 1) := by decide +kernel
theorem dX11_leak_24 : decode cX11_leak 24 = .ok (.invokevirtual 185, 3) := by decide +kernel
theorem dX11_leak_27 : decode cX11_leak 27 = .ok (.ireturn, 1) := by decide +kernel
theorem dX11_minutes_0 : decode cX11_minutes 0 = .ok (.iload_n 1, 1) := by decide +kernel
theorem dX11_minutes_1 : decode cX11_minutes 1 = .ok (.iconst 1, 1) := by decide +kernel
theorem dX11_minutes_2 : decode cX11_minutes 2 = .ok (.sipush 600, 3) := by decide +kernel
theorem dX11_minutes_5 : decode cX11_minutes 5 = .ok (.invokestatic 78, 3) := by decide +kernel
theorem dX11_minutes_8 : decode cX11_minutes 8 = .ok (.ifCond .ne 8, 3) := by decide +kernel
theorem dX11_minutes_11 : decode cX11_minutes 11 = .ok (.aload_n 0, 1) := by decide +kernel
theorem dX11_minutes_12 : decode cX11_minutes 12 = .ok (.invokevirtual 189, 3) := by decide +kernel
theorem dX11_minutes_15 : decode cX11_minutes 15 = .ok (.ireturn, 1) := by decide +kernel
theorem dX11_minutes_16 : decode cX11_minutes 16 = .ok (.aload_n 0, 1) := by decide +kernel
theorem dX11_minutes_17 : decode cX11_minutes 17 = .ok (.iload_n 2, 1) := by decide +kernel
theorem dX11_minutes_18 : decode cX11_minutes 18 = .ok (.invokevirtual 181, 3) := by decide +kernel
theorem dX11_minutes_21 : decode cX11_minutes 21 = .ok (.istore_n 3, 1) := by decide +kernel
theorem dX11_minutes_22 : decode cX11_minutes 22 = .ok (.aload_n 0, 1) := by decide +kernel
theorem dX11_minutes_23 : decode cX11_minutes 23 = .ok (.getfield 63, 3) := by decide +kernel
theorem dX11_minutes_26 : decode cX11_minutes 26 = .ok (.getfield 144, 3) := by decide +kernel
theorem dX11_minutes_29 : decode cX11_minutes 29 = .ok (.istore 4, 2) := by decide +kernel
theorem dX11_minutes_31 : decode cX11_minutes 31 = .ok (.iconst 0, 1) := by decide +kernel
theorem dX11_minutes_32 : decode cX11_minutes 32 = .ok (.istore 5, 2) := by decide +kernel
theorem dX11_minutes_34 : decode cX11_minutes 34 = .ok (.iload 5, 2) := by decide +kernel
theorem dX11_minutes_36 : decode cX11_minutes 36 = .ok (.iload_n 1, 1) := by decide +kernel
theorem dX11_minutes_37 : decode cX11_minutes 37 = .ok (.if_icmp .ge 35, 3) := by decide +kernel
theorem dX11_minutes_40 : decode cX11_minutes 40 = .ok (.iload 4, 2) := by decide +kernel
theorem dX11_minutes_42 : decode cX11_minutes 42 = .ok (.aload_n 0, 1) := by decide +kernel
theorem dX11_minutes_43 : decode cX11_minutes 43 = .ok (.getfield 33, 3) := by decide +kernel
theorem dX11_minutes_46 : decode cX11_minutes 46 = .ok (.iload_n 3, 1) := by decide +kernel
theorem dX11_minutes_47 : decode cX11_minutes 47 = .ok (.iload 4, 2) := by decide +kernel
theorem dX11_minutes_49 : decode cX11_minutes 49 = .ok (.aload_n 0, 1) := by decide +kernel
theorem dX11_minutes_50 : decode cX11_minutes 50 = .ok (.getfield 63, 3) := by decide +kernel
theorem dX11_minutes_53 : decode cX11_minutes 53 = .ok (.getfield 147, 3) := by decide +kernel
theorem dX11_minutes_56 : decode cX11_minutes 56 = .ok (.iload 5, 2) := by decide +kernel
theorem dX11_minutes_58 : decode cX11_minutes 58 = .ok (.iadd, 1) := by decide +kernel
theorem dX11_minutes_59 : decode cX11_minutes 59 = .ok (.iload_n 2, 1) := by decide +kernel
theorem dX11_minutes_60 : decode cX11_minutes 60 = .ok (.invokevirtual 185, 3) := by decide +kernel
theorem dX11_minutes_63 : decode cX11_minutes 63 = .ok (.isub, 1) := by decide +kernel
theorem dX11_minutes_64 : decode cX11_minutes 64 = .ok (.istore 4, 2) := by decide +kernel
theorem dX11_minutes_66 : decode cX11_minutes 66 = .ok (.iinc 5 1, 3) := by decide +kernel
theorem dX11_minutes_69 : decode cX11_minutes 69 = .ok (.goto (-35), 3) := by decide +kernel
theorem dX11_minutes_72 : decode cX11_minutes 72 = .ok (.aload_n 0, 1) := by decide +kernel
theorem dX11_minutes_73 : decode cX11_minutes 73 = .ok (.iload 4, 2) := by decide +kernel
theorem dX11_minutes_75 : decode cX11_minutes 75 = .ok (.aload_n 0, 1) := by decide +kernel
theorem dX11_minutes_76 : decode cX11_minutes 76 = .ok (.getfield 63, 3) := by decide +kernel
theorem dX11_minutes_79 : decode cX11_minutes 79 = .ok (.getfield 147, 3) := by decide +kernel
theorem dX11_minutes_82 : decode cX11_minutes 82 = .ok (.iload_n 1, 1) := by decide +kernel
theorem dX11_minutes_83 : decode cX11_minutes 83 = .ok (.iadd, 1) := by decide +kernel
theorem dX11_minutes_84 : decode cX11_minutes 84 = .ok (.aload_n 0, 1) := by decide +kernel
theorem dX11_minutes_85 : decode cX11_minutes 85 = .ok (.getfield 63, 3) := by decide +kernel
theorem dX11_minutes_88 : decode cX11_minutes 88 = .ok (.getfield 176, 3) := by decide +kernel
theorem dX11_minutes_91 : decode cX11_minutes 91 = .ok (.aload_n 0, 1) := by decide +kernel
theorem dX11_minutes_92 : decode cX11_minutes 92 = .ok (.getfield 63, 3) := by decide +kernel
theorem dX11_minutes_95 : decode cX11_minutes 95 = .ok (.getfield 193, 3) := by decide +kernel
theorem dX11_minutes_98 : decode cX11_minutes 98 = .ok (.invokevirtual 197, 3) := by decide +kernel
theorem dX11_minutes_101 : decode cX11_minutes 101 = .ok (.iload 4, 2) := by decide +kernel
theorem dX11_minutes_103 : decode cX11_minutes 103 = .ok (.ireturn, 1) := by decide +kernel
theorem dX11_pump_0 : decode cX11_pump 0 = .ok (.aload_n 0, 1) := by decide +kernel
theorem dX11_pump_1 : decode cX11_pump 1 = .ok (.getfield 63, 3) := by decide +kernel
theorem dX11_pump_4 : decode cX11_pump 4 = .ok (.getfield 144, 3) := by decide +kernel
theorem dX11_pump_7 : decode cX11_pump 7 = .ok (.istore_n 1, 1) := by decide +kernel
theorem dX11_pump_8 : decode cX11_pump 8 = .ok (.aload_n 0, 1) := by decide +kernel
theorem dX11_pump_9 : decode cX11_pump 9 = .ok (.aload_n 0, 1) := by decide +kernel
theorem dX11_pump_10 : decode cX11_pump 10 = .ok (.getfield 33, 3) := by decide +kernel
theorem dX11_pump_13 : decode cX11_pump 13 = .ok (.invokevirtual 201, 3) := by decide +kernel
theorem dX11_pump_16 : decode cX11_pump 16 = .ok (.aload_n 0, 1) := by decide +kernel
theorem dX11_pump_17 : decode cX11_pump 17 = .ok (.getfield 63, 3) := by decide +kernel
theorem dX11_pump_20 : decode cX11_pump 20 = .ok (.getfield 147, 3) := by decide +kernel
theorem dX11_pump_23 : decode cX11_pump 23 = .ok (.aload_n 0, 1) := by decide +kernel
theorem dX11_pump_24 : decode cX11_pump 24 = .ok (.getfield 63, 3) := by decide +kernel
theorem dX11_pump_27 : decode cX11_pump 27 = .ok (.getfield 176, 3) := by decide +kernel
theorem dX11_pump_30 : decode cX11_pump 30 = .ok (.aload_n 0, 1) := by decide +kernel
theorem dX11_pump_31 : decode cX11_pump 31 = .ok (.getfield 63, 3) := by decide +kernel
theorem dX11_pump_34 : decode cX11_pump 34 = .ok (.getfield 193, 3) := by decide +kernel
theorem dX11_pump_37 : decode cX11_pump 37 = .ok (.invokevirtual 197, 3) := by decide +kernel
theorem dX11_pump_40 : decode cX11_pump 40 = .ok (.iload_n 1, 1) := by decide +kernel
theorem dX11_pump_41 : decode cX11_pump 41 = .ok (.ireturn, 1) := by decide +kernel
theorem dX11_undo_0 : decode cX11_undo 0 = .ok (.aload_n 0, 1) := by decide +kernel
theorem dX11_undo_1 : decode cX11_undo 1 = .ok (.getfield 99, 3) := by decide +kernel
theorem dX11_undo_4 : decode cX11_undo 4 = .ok (.ifCond .eq 13, 3) := by decide +kernel
theorem dX11_undo_7 : decode cX11_undo 7 = .ok (.aload_n 0, 1) := by decide +kernel
theorem dX11_undo_8 : decode cX11_undo 8 = .ok (.getfield 63, 3) := by decide +kernel
theorem dX11_undo_11 : decode cX11_undo 11 = .ok (.getfield 204, 3) := by decide +kernel
theorem dX11_undo_14 : decode cX11_undo 14 = .ok (.ifnonnull 5, 3) := by decide +kernel
theorem dX11_undo_17 : decode cX11_undo 17 = .ok (.iconst (-1), 1) := by decide +kernel
theorem dX11_undo_18 : decode cX11_undo 18 = .ok (.ireturn, 1) := by decide +kernel
theorem dX11_undo_19 : decode cX11_undo 19 = .ok (.aload_n 0, 1) := by decide +kernel
theorem dX11_undo_20 : decode cX11_undo 20 = .ok (.aload_n 0, 1) := by decide +kernel
theorem dX11_undo_21 : decode cX11_undo 21 = .ok (.getfield 63, 3) := by decide +kernel
theorem dX11_undo_24 : decode cX11_undo 24 = .ok (.getfield 204, 3) := by decide +kernel
theorem dX11_undo_27 : decode cX11_undo 27 = .ok (.putfield 63, 3) := by decide +kernel
theorem dX11_undo_30 : decode cX11_undo 30 = .ok (.aload_n 0, 1) := by decide +kernel
theorem dX11_undo_31 : decode cX11_undo 31 = .ok (.dup, 1) := by decide +kernel
theorem dX11_undo_32 : decode cX11_undo 32 = .ok (.getfield 99, 3) := by decide +kernel
theorem dX11_undo_35 : decode cX11_undo 35 = .ok (.iconst 1, 1) := by decide +kernel
theorem dX11_undo_36 : decode cX11_undo 36 = .ok (.isub, 1) := by decide +kernel
theorem dX11_undo_37 : decode cX11_undo 37 = .ok (.putfield 99, 3) := by decide +kernel
theorem dX11_undo_40 : decode cX11_undo 40 = .ok (.aload_n 0, 1) := by decide +kernel
theorem dX11_undo_41 : decode cX11_undo 41 = .ok (.getfield 19, 3) := by decide +kernel
theorem dX11_undo_44 : decode cX11_undo 44 = .ok (.invokevirtual 112, 3) := by decide +kernel
theorem dX11_undo_47 : decode cX11_undo 47 = .ok (.aload_n 0, 1) := by decide +kernel
theorem dX11_undo_48 : decode cX11_undo 48 = .ok (.getfield 99, 3) := by decide +kernel
theorem dX11_undo_51 : decode cX11_undo 51 = .ok (.ireturn, 1) := by decide +kernel
theorem dX11_flat_0 : decode cX11_flat 0 = .ok (.aload_n 0, 1) := by decide +kernel
theorem dX11_flat_1 : decode cX11_flat 1 = .ok (.aload_n 0, 1) := by decide +kernel
theorem dX11_flat_2 : decode cX11_flat 2 = .ok (.iload_n 1, 1) := by decide +kernel
theorem dX11_flat_3 : decode cX11_flat 3 = .ok (.invokevirtual 181, 3) := by decide +kernel
theorem dX11_flat_6 : decode cX11_flat 6 = .ok (.iload_n 1, 1) := by decide +kernel
theorem dX11_flat_7 : decode cX11_flat 7 = .ok (.invokevirtual 207, 3) := by decide +kernel
theorem dX11_flat_10 : decode cX11_flat 10 = .ok (.ireturn, 1) := by decide +kernel
theorem dX11_flatIf_0 : decode cX11_flatIf 0 = .ok (.iload_n 1, 1) := by decide +kernel
theorem dX11_flatIf_1 : decode cX11_flatIf 1 = .ok (.aload_n 0, 1) := by decide +kernel
theorem dX11_flatIf_2 : decode cX11_flatIf 2 = .ok (.getfield 33, 3) := by decide +kernel
theorem dX11_flatIf_5 : decode cX11_flatIf 5 = .ok (.getfield 121, 3) := by decide +kernel
theorem dX11_flatIf_8 : decode cX11_flatIf 8 = .ok (.invokevirtual 211, 3) := by decide +kernel
theorem dX11_flatIf_11 : decode cX11_flatIf 11 = .ok (.iconst (-1), 1) := by decide +kernel
theorem dX11_flatIf_12 : decode cX11_flatIf 12 = .ok (.ixor, 1) := by decide +kernel
theorem dX11_flatIf_13 : decode cX11_flatIf 13 = .ok (.iand, 1) := by decide +kernel
theorem dX11_flatIf_14 : decode cX11_flatIf 14 = .ok (.ifCond .ne 7, 3) := by decide +kernel
theorem dX11_flatIf_17 : decode cX11_flatIf 17 = .ok (.iconst 1, 1) := by decide +kernel
theorem dX11_flatIf_18 : decode cX11_flatIf 18 = .ok (.goto 4, 3) := by decide +kernel
theorem dX11_flatIf_21 : decode cX11_flatIf 21 = .ok (.iconst 0, 1) := by decide +kernel
theorem dX11_flatIf_22 : decode cX11_flatIf 22 = .ok (.invokestatic 82, 3) := by decide +kernel
theorem dX11_flatIf_25 : decode cX11_flatIf 25 = .ok (.aload_n 0, 1) := by decide +kernel
theorem dX11_flatIf_26 : decode cX11_flatIf 26 = .ok (.iload_n 1, 1) := by decide +kernel
theorem dX11_flatIf_27 : decode cX11_flatIf 27 = .ok (.iload_n 2, 1) := by decide +kernel
theorem dX11_flatIf_28 : decode cX11_flatIf 28 = .ok (.invokevirtual 207, 3) := by decide +kernel
theorem dX11_flatIf_31 : decode cX11_flatIf 31 = .ok (.ireturn, 1) := by decide +kernel
theorem dX11_which_0 : decode cX11_which 0 = .ok (.iload_n 3, 1) := by decide +kernel
theorem dX11_which_1 : decode cX11_which 1 = .ok (.iconst 0, 1) := by decide +kernel
theorem dX11_which_2 : decode cX11_which 2 = .ok (.iconst 1, 1) := by decide +kernel
theorem dX11_which_3 : decode cX11_which 3 = .ok (.invokestatic 78, 3) := by decide +kernel
theorem dX11_which_6 : decode cX11_which 6 = .ok (.invokestatic 214, 3) := by decide +kernel
theorem dX11_which_9 : decode cX11_which 9 = .ok (.iconst 0, 1) := by decide +kernel
theorem dX11_which_10 : decode cX11_which 10 = .ok (.istore 4, 2) := by decide +kernel
theorem dX11_which_12 : decode cX11_which 12 = .ok (.iconst (-1), 1) := by decide +kernel
theorem dX11_which_13 : decode cX11_which 13 = .ok (.istore 5, 2) := by decide +kernel
theorem dX11_which_15 : decode cX11_which 15 = .ok (.iconst 0, 1) := by decide +kernel
theorem dX11_which_16 : decode cX11_which 16 = .ok (.istore 6, 2) := by decide +kernel
theorem dX11_which_18 : decode cX11_which 18 = .ok (.iload 6, 2) := by decide +kernel
theorem dX11_which_20 : decode cX11_which 20 = .ok (.aload_n 0, 1) := by decide +kernel
theorem dX11_which_21 : decode cX11_which 21 = .ok (.getfield 33, 3) := by decide +kernel
theorem dX11_which_24 : decode cX11_which 24 = .ok (.getfield 121, 3) := by decide +kernel
theorem dX11_which_27 : decode cX11_which 27 = .ok (.invokevirtual 211, 3) := by decide +kernel
theorem dX11_which_30 : decode cX11_which 30 = .ok (.if_icmp .gt 55, 3) := by decide +kernel
theorem dX11_which_33 : decode cX11_which 33 = .ok (.aload_n 0, 1) := by decide +kernel
theorem dX11_which_34 : decode cX11_which 34 = .ok (.getfield 33, 3) := by decide +kernel
theorem dX11_which_37 : decode cX11_which 37 = .ok (.iload 6, 2) := by decide +kernel
theorem dX11_which_39 : decode cX11_which 39 = .ok (.aload_n 0, 1) := by decide +kernel
theorem dX11_which_40 : decode cX11_which 40 = .ok (.getfield 63, 3) := by decide +kernel
theorem dX11_which_43 : decode cX11_which 43 = .ok (.getfield 144, 3) := by decide +kernel
theorem dX11_which_46 : decode cX11_which 46 = .ok (.aload_n 0, 1) := by decide +kernel
theorem dX11_which_47 : decode cX11_which 47 = .ok (.getfield 63, 3) := by decide +kernel
theorem dX11_which_50 : decode cX11_which 50 = .ok (.getfield 147, 3) := by decide +kernel
theorem dX11_which_53 : decode cX11_which 53 = .ok (.iload_n 2, 1) := by decide +kernel
theorem dX11_which_54 : decode cX11_which 54 = .ok (.invokevirtual 185, 3) := by decide +kernel
theorem dX11_which_57 : decode cX11_which 57 = .ok (.iload_n 1, 1) := by decide +kernel
theorem dX11_which_58 : decode cX11_which 58 = .ok (.if_icmp .ne 21, 3) := by decide +kernel
theorem dX11_which_61 : decode cX11_which 61 = .ok (.iinc 4 1, 3) := by decide +kernel
theorem dX11_which_64 : decode cX11_which 64 = .ok (.iload 5, 2) := by decide +kernel
theorem dX11_which_66 : decode cX11_which 66 = .ok (.iconst (-1), 1) := by decide +kernel
theorem dX11_which_67 : decode cX11_which 67 = .ok (.if_icmp .ne 8, 3) := by decide +kernel
theorem dX11_which_70 : decode cX11_which 70 = .ok (.iload 6, 2) := by decide +kernel
theorem dX11_which_72 : decode cX11_which 72 = .ok (.goto 5, 3) := by decide +kernel
theorem dX11_which_75 : decode cX11_which 75 = .ok (.iload 5, 2) := by decide +kernel
theorem dX11_which_77 : decode cX11_which 77 = .ok (.istore 5, 2) := by decide +kernel
theorem dX11_which_79 : decode cX11_which 79 = .ok (.iinc 6 1, 3) := by decide +kernel
theorem dX11_which_82 : decode cX11_which 82 = .ok (.goto (-64), 3) := by decide +kernel
theorem dX11_which_85 : decode cX11_which 85 = .ok (.iload_n 3, 1) := by decide +kernel
theorem dX11_which_86 : decode cX11_which 86 = .ok (.ifCond .ne 8, 3) := by decide +kernel
theorem dX11_which_89 : decode cX11_which 89 = .ok (.iload 4, 2) := by decide +kernel
theorem dX11_which_91 : decode cX11_which 91 = .ok (.goto 5, 3) := by decide +kernel
theorem dX11_which_94 : decode cX11_which 94 = .ok (.iload 5, 2) := by decide +kernel
theorem dX11_which_96 : decode cX11_which 96 = .ok (.ireturn, 1) := by decide +kernel
theorem dX11_minutesTillFlat_0 : decode cX11_minutesTillFlat 0 = .ok (.aload_n 0, 1) := by decide +kernel
theorem dX11_minutesTillFlat_1 : decode cX11_minutesTillFlat 1 = .ok (.getfield 63, 3) := by decide +kernel
theorem dX11_minutesTillFlat_4 : decode cX11_minutesTillFlat 4 = .ok (.getfield 144, 3) := by decide +kernel
theorem dX11_minutesTillFlat_7 : decode cX11_minutesTillFlat 7 = .ok (.istore_n 3, 1) := by decide +kernel
theorem dX11_minutesTillFlat_8 : decode cX11_minutesTillFlat 8 = .ok (.iload_n 3, 1) := by decide +kernel
theorem dX11_minutesTillFlat_9 : decode cX11_minutesTillFlat 9 = .ok (.sipush 10000, 3) := by decide +kernel
theorem dX11_minutesTillFlat_12 : decode cX11_minutesTillFlat 12 = .ok (.if_icmp .ge 5, 3) := by decide +kernel
theorem dX11_minutesTillFlat_15 : decode cX11_minutesTillFlat 15 = .ok (.iconst 0, 1) := by decide +kernel
theorem dX11_minutesTillFlat_16 : decode cX11_minutesTillFlat 16 = .ok (.ireturn, 1) := by decide +kernel
theorem dX11_minutesTillFlat_17 : decode cX11_minutesTillFlat 17 = .ok (.aload_n 0, 1) := by decide +kernel
theorem dX11_minutesTillFlat_18 : decode cX11_minutesTillFlat 18 = .ok (.getfield 33, 3) := by decide +kernel
theorem dX11_minutesTillFlat_21 : decode cX11_minutesTillFlat 21 = .ok (.iload_n 1, 1) := by decide +kernel
theorem dX11_minutesTillFlat_22 : decode cX11_minutesTillFlat 22 = .ok (.invokevirtual 217, 3) := by decide +kernel
theorem dX11_minutesTillFlat_25 : decode cX11_minutesTillFlat 25 = .ok (.istore 4, 2) := by decide +kernel
theorem dX11_minutesTillFlat_27 : decode cX11_minutesTillFlat 27 = .ok (.iconst 0, 1) := by decide +kernel
theorem dX11_minutesTillFlat_28 : decode cX11_minutesTillFlat 28 = .ok (.istore 5, 2) := by decide +kernel
theorem dX11_minutesTillFlat_30 : decode cX11_minutesTillFlat 30 = .ok (.iload 5, 2) := by decide +kernel
theorem dX11_minutesTillFlat_32 : decode cX11_minutesTillFlat 32 = .ok (.sipush 2000, 3) := by decide +kernel
theorem dX11_minutesTillFlat_35 : decode cX11_minutesTillFlat 35 = .ok (.if_icmp .ge 60, 3) := by decide +kernel
theorem dX11_minutesTillFlat_38 : decode cX11_minutesTillFlat 38 = .ok (.aload_n 0, 1) := by decide +kernel
theorem dX11_minutesTillFlat_39 : decode cX11_minutesTillFlat 39 = .ok (.getfield 33, 3) := by decide +kernel
theorem dX11_minutesTillFlat_42 : decode cX11_minutesTillFlat 42 = .ok (.iload_n 1, 1) := by decide +kernel
theorem dX11_minutesTillFlat_43 : decode cX11_minutesTillFlat 43 = .ok (.iload_n 3, 1) := by decide +kernel
theorem dX11_minutesTillFlat_44 : decode cX11_minutesTillFlat 44 = .ok (.aload_n 0, 1) := by decide +kernel
theorem dX11_minutesTillFlat_45 : decode cX11_minutesTillFlat 45 = .ok (.getfield 63, 3) := by decide +kernel
theorem dX11_minutesTillFlat_48 : decode cX11_minutesTillFlat 48 = .ok (.getfield 147, 3) := by decide +kernel
theorem dX11_minutesTillFlat_51 : decode cX11_minutesTillFlat 51 = .ok (.iload 5, 2) := by decide +kernel
theorem dX11_minutesTillFlat_53 : decode cX11_minutesTillFlat 53 = .ok (.iadd, 1) := by decide +kernel
theorem dX11_minutesTillFlat_54 : decode cX11_minutesTillFlat 54 = .ok (.iload_n 2, 1) := by decide +kernel
theorem dX11_minutesTillFlat_55 : decode cX11_minutesTillFlat 55 = .ok (.invokevirtual 185, 3) := by decide +kernel
theorem dX11_minutesTillFlat_58 : decode cX11_minutesTillFlat 58 = .ok (.istore 6, 2) := by decide +kernel
theorem dX11_minutesTillFlat_60 : decode cX11_minutesTillFlat 60 = .ok (.iload 6, 2) := by decide +kernel
theorem dX11_minutesTillFlat_62 : decode cX11_minutesTillFlat 62 = .ok (.ifCond .ne 10, 3) := by decide +kernel
theorem dX11_minutesTillFlat_65 : decode cX11_minutesTillFlat 65 = .ok (.iload 4, 2) := by decide +kernel
theorem dX11_minutesTillFlat_67 : decode cX11_minutesTillFlat 67 = .ok (.ifCond .eq 5, 3) := by decide +kernel
theorem dX11_minutesTillFlat_70 : decode cX11_minutesTillFlat 70 = .ok (.iconst (-1), 1) := by decide +kernel
theorem dX11_minutesTillFlat_71 : decode cX11_minutesTillFlat 71 = .ok (.ireturn, 1) := by decide +kernel
theorem dX11_minutesTillFlat_72 : decode cX11_minutesTillFlat 72 = .ok (.iload_n 3, 1) := by decide +kernel
theorem dX11_minutesTillFlat_73 : decode cX11_minutesTillFlat 73 = .ok (.iload 6, 2) := by decide +kernel
theorem dX11_minutesTillFlat_75 : decode cX11_minutesTillFlat 75 = .ok (.isub, 1) := by decide +kernel
theorem dX11_minutesTillFlat_76 : decode cX11_minutesTillFlat 76 = .ok (.istore_n 3, 1) := by decide +kernel
theorem dX11_minutesTillFlat_77 : decode cX11_minutesTillFlat 77 = .ok (.iload_n 3, 1) := by decide +kernel
theorem dX11_minutesTillFlat_78 : decode cX11_minutesTillFlat 78 = .ok (.sipush 10000, 3) := by decide +kernel
theorem dX11_minutesTillFlat_81 : decode cX11_minutesTillFlat 81 = .ok (.if_icmp .ge 8, 3) := by decide +kernel
theorem dX11_minutesTillFlat_84 : decode cX11_minutesTillFlat 84 = .ok (.iload 5, 2) := by decide +kernel
theorem dX11_minutesTillFlat_86 : decode cX11_minutesTillFlat 86 = .ok (.iconst 1, 1) := by decide +kernel
theorem dX11_minutesTillFlat_87 : decode cX11_minutesTillFlat 87 = .ok (.iadd, 1) := by decide +kernel
theorem dX11_minutesTillFlat_88 : decode cX11_minutesTillFlat 88 = .ok (.ireturn, 1) := by decide +kernel
theorem dX11_minutesTillFlat_89 : decode cX11_minutesTillFlat 89 = .ok (.iinc 5 1, 3) := by decide +kernel
theorem dX11_minutesTillFlat_92 : decode cX11_minutesTillFlat 92 = .ok (.goto (-62), 3) := by decide +kernel
theorem dX11_minutesTillFlat_95 : decode cX11_minutesTillFlat 95 = .ok (.iconst (-1), 1) := by decide +kernel
theorem dX11_minutesTillFlat_96 : decode cX11_minutesTillFlat 96 = .ok (.ireturn, 1) := by decide +kernel
theorem dX11_leakingHoles_0 : decode cX11_leakingHoles 0 = .ok (.iconst 0, 1) := by decide +kernel
theorem dX11_leakingHoles_1 : decode cX11_leakingHoles 1 = .ok (.istore_n 2, 1) := by decide +kernel
theorem dX11_leakingHoles_2 : decode cX11_leakingHoles 2 = .ok (.iconst 0, 1) := by decide +kernel
theorem dX11_leakingHoles_3 : decode cX11_leakingHoles 3 = .ok (.istore_n 3, 1) := by decide +kernel
theorem dX11_leakingHoles_4 : decode cX11_leakingHoles 4 = .ok (.iload_n 3, 1) := by decide +kernel
theorem dX11_leakingHoles_5 : decode cX11_leakingHoles 5 = .ok (.aload_n 0, 1) := by decide +kernel
theorem dX11_leakingHoles_6 : decode cX11_leakingHoles 6 = .ok (.getfield 33, 3) := by decide +kernel
theorem dX11_leakingHoles_9 : decode cX11_leakingHoles 9 = .ok (.getfield 121, 3) := by decide +kernel
theorem dX11_leakingHoles_12 : decode cX11_leakingHoles 12 = .ok (.getfield 125, 3) := by decide +kernel
theorem dX11_leakingHoles_15 : decode cX11_leakingHoles 15 = .ok (.if_icmp .ge 33, 3) := by decide +kernel
theorem dX11_leakingHoles_18 : decode cX11_leakingHoles 18 = .ok (.iload_n 1, 1) := by decide +kernel
theorem dX11_leakingHoles_19 : decode cX11_leakingHoles 19 = .ok (.ifCond .ne 17, 3) := by decide +kernel
theorem dX11_leakingHoles_22 : decode cX11_leakingHoles 22 = .ok (.aload_n 0, 1) := by decide +kernel
theorem dX11_leakingHoles_23 : decode cX11_leakingHoles 23 = .ok (.getfield 33, 3) := by decide +kernel
theorem dX11_leakingHoles_26 : decode cX11_leakingHoles 26 = .ok (.getfield 121, 3) := by decide +kernel
theorem dX11_leakingHoles_29 : decode cX11_leakingHoles 29 = .ok (.iload_n 3, 1) := by decide +kernel
theorem dX11_leakingHoles_30 : decode cX11_leakingHoles 30 = .ok (.invokevirtual 172, 3) := by decide +kernel
theorem dX11_leakingHoles_33 : decode cX11_leakingHoles 33 = .ok (.ifCond .ne 9, 3) := by decide +kernel
theorem dX11_leakingHoles_36 : decode cX11_leakingHoles 36 = .ok (.iload_n 2, 1) := by decide +kernel
theorem dX11_leakingHoles_37 : decode cX11_leakingHoles 37 = .ok (.iconst 1, 1) := by decide +kernel
theorem dX11_leakingHoles_38 : decode cX11_leakingHoles 38 = .ok (.iload_n 3, 1) := by decide +kernel
theorem dX11_leakingHoles_39 : decode cX11_leakingHoles 39 = .ok (.ishl, 1) := by decide +kernel
theorem dX11_leakingHoles_40 : decode cX11_leakingHoles 40 = .ok (.ior, 1) := by decide +kernel
theorem dX11_leakingHoles_41 : decode cX11_leakingHoles 41 = .ok (.istore_n 2, 1) := by decide +kernel
theorem dX11_leakingHoles_42 : decode cX11_leakingHoles 42 = .ok (.iinc 3 1, 3) := by decide +kernel
theorem dX11_leakingHoles_45 : decode cX11_leakingHoles 45 = .ok (.goto (-41), 3) := by decide +kernel
theorem dX11_leakingHoles_48 : decode cX11_leakingHoles 48 = .ok (.iload_n 2, 1) := by decide +kernel
theorem dX11_leakingHoles_49 : decode cX11_leakingHoles 49 = .ok (.aload_n 0, 1) := by decide +kernel
theorem dX11_leakingHoles_50 : decode cX11_leakingHoles 50 = .ok (.getfield 63, 3) := by decide +kernel
theorem dX11_leakingHoles_53 : decode cX11_leakingHoles 53 = .ok (.getfield 176, 3) := by decide +kernel
theorem dX11_leakingHoles_56 : decode cX11_leakingHoles 56 = .ok (.iconst (-1), 1) := by decide +kernel
theorem dX11_leakingHoles_57 : decode cX11_leakingHoles 57 = .ok (.ixor, 1) := by decide +kernel
theorem dX11_leakingHoles_58 : decode cX11_leakingHoles 58 = .ok (.iand, 1) := by decide +kernel
theorem dX11_leakingHoles_59 : decode cX11_leakingHoles 59 = .ok (.ireturn, 1) := by decide +kernel
theorem dX11_dip_0 : decode cX11_dip 0 = .ok (.aload_n 0, 1) := by decide +kernel
theorem dX11_dip_1 : decode cX11_dip 1 = .ok (.iload_n 1, 1) := by decide +kernel
theorem dX11_dip_2 : decode cX11_dip 2 = .ok (.invokevirtual 220, 3) := by decide +kernel
theorem dX11_dip_5 : decode cX11_dip 5 = .ok (.ifCond .eq 14, 3) := by decide +kernel
theorem dX11_dip_8 : decode cX11_dip 8 = .ok (.iload_n 2, 1) := by decide +kernel
theorem dX11_dip_9 : decode cX11_dip 9 = .ok (.iconst 1, 1) := by decide +kernel
theorem dX11_dip_10 : decode cX11_dip 10 = .ok (.sipush 600, 3) := by decide +kernel
theorem dX11_dip_13 : decode cX11_dip 13 = .ok (.invokestatic 78, 3) := by decide +kernel
theorem dX11_dip_16 : decode cX11_dip 16 = .ok (.ifCond .ne 8, 3) := by decide +kernel
theorem dX11_dip_19 : decode cX11_dip 19 = .ok (.aload_n 0, 1) := by decide +kernel
theorem dX11_dip_20 : decode cX11_dip 20 = .ok (.invokevirtual 189, 3) := by decide +kernel
theorem dX11_dip_23 : decode cX11_dip 23 = .ok (.ireturn, 1) := by decide +kernel
theorem dX11_dip_24 : decode cX11_dip 24 = .ok (.aload_n 0, 1) := by decide +kernel
theorem dX11_dip_25 : decode cX11_dip 25 = .ok (.getfield 63, 3) := by decide +kernel
theorem dX11_dip_28 : decode cX11_dip 28 = .ok (.getfield 193, 3) := by decide +kernel
theorem dX11_dip_31 : decode cX11_dip 31 = .ok (.invokevirtual 223, 3) := by decide +kernel
theorem dX11_dip_34 : decode cX11_dip 34 = .ok (.checkcast 224, 3) := by decide +kernel
theorem dX11_dip_37 : decode cX11_dip 37 = .ok (.astore_n 3, 1) := by decide +kernel
theorem dX11_dip_38 : decode cX11_dip 38 = .ok (.iconst 0, 1) := by decide +kernel
theorem dX11_dip_39 : decode cX11_dip 39 = .ok (.istore 4, 2) := by decide +kernel
theorem dX11_dip_41 : decode cX11_dip 41 = .ok (.iload 4, 2) := by decide +kernel
theorem dX11_dip_43 : decode cX11_dip 43 = .ok (.aload_n 0, 1) := by decide +kernel
theorem dX11_dip_44 : decode cX11_dip 44 = .ok (.getfield 33, 3) := by decide +kernel
theorem dX11_dip_47 : decode cX11_dip 47 = .ok (.invokevirtual 228, 3) := by decide +kernel
theorem dX11_dip_50 : decode cX11_dip 50 = .ok (.if_icmp .ge 32, 3) := by decide +kernel
theorem dX11_dip_53 : decode cX11_dip 53 = .ok (.aload_n 3, 1) := by decide +kernel
theorem dX11_dip_54 : decode cX11_dip 54 = .ok (.aload_n 0, 1) := by decide +kernel
theorem dX11_dip_55 : decode cX11_dip 55 = .ok (.getfield 33, 3) := by decide +kernel
theorem dX11_dip_58 : decode cX11_dip 58 = .ok (.iload_n 1, 1) := by decide +kernel
theorem dX11_dip_59 : decode cX11_dip 59 = .ok (.iload 4, 2) := by decide +kernel
theorem dX11_dip_61 : decode cX11_dip 61 = .ok (.iadd, 1) := by decide +kernel
theorem dX11_dip_62 : decode cX11_dip 62 = .ok (.invokevirtual 231, 3) := by decide +kernel
theorem dX11_dip_65 : decode cX11_dip 65 = .ok (.aload_n 0, 1) := by decide +kernel
theorem dX11_dip_66 : decode cX11_dip 66 = .ok (.getfield 33, 3) := by decide +kernel
theorem dX11_dip_69 : decode cX11_dip 69 = .ok (.invokevirtual 235, 3) := by decide +kernel
theorem dX11_dip_72 : decode cX11_dip 72 = .ok (.iload_n 2, 1) := by decide +kernel
theorem dX11_dip_73 : decode cX11_dip 73 = .ok (.invokestatic 238, 3) := by decide +kernel
theorem dX11_dip_76 : decode cX11_dip 76 = .ok (.iinc 4 1, 3) := by decide +kernel
theorem dX11_dip_79 : decode cX11_dip 79 = .ok (.goto (-38), 3) := by decide +kernel
theorem dX11_dip_82 : decode cX11_dip 82 = .ok (.aload_n 0, 1) := by decide +kernel
theorem dX11_dip_83 : decode cX11_dip 83 = .ok (.aload_n 3, 1) := by decide +kernel
theorem dX11_dip_84 : decode cX11_dip 84 = .ok (.invokevirtual 244, 3) := by decide +kernel
theorem dX11_dip_87 : decode cX11_dip 87 = .ok (.ireturn, 1) := by decide +kernel
theorem dX11_listen_0 : decode cX11_listen 0 = .ok (.iload_n 1, 1) := by decide +kernel
theorem dX11_listen_1 : decode cX11_listen 1 = .ok (.iconst 0, 1) := by decide +kernel
theorem dX11_listen_2 : decode cX11_listen 2 = .ok (.iconst 3, 1) := by decide +kernel
theorem dX11_listen_3 : decode cX11_listen 3 = .ok (.invokestatic 78, 3) := by decide +kernel
theorem dX11_listen_6 : decode cX11_listen 6 = .ok (.ifCond .eq 14, 3) := by decide +kernel
theorem dX11_listen_9 : decode cX11_listen 9 = .ok (.iload_n 2, 1) := by decide +kernel
theorem dX11_listen_10 : decode cX11_listen 10 = .ok (.iconst 1, 1) := by decide +kernel
theorem dX11_listen_11 : decode cX11_listen 11 = .ok (.sipush 600, 3) := by decide +kernel
theorem dX11_listen_14 : decode cX11_listen 14 = .ok (.invokestatic 78, 3) := by decide +kernel
theorem dX11_listen_17 : decode cX11_listen 17 = .ok (.ifCond .ne 8, 3) := by decide +kernel
theorem dX11_listen_20 : decode cX11_listen 20 = .ok (.aload_n 0, 1) := by decide +kernel
theorem dX11_listen_21 : decode cX11_listen 21 = .ok (.invokevirtual 189, 3) := by decide +kernel
theorem dX11_listen_24 : decode cX11_listen 24 = .ok (.ireturn, 1) := by decide +kernel
theorem dX11_listen_25 : decode cX11_listen 25 = .ok (.aload_n 0, 1) := by decide +kernel
theorem dX11_listen_26 : decode cX11_listen 26 = .ok (.getfield 63, 3) := by decide +kernel
theorem dX11_listen_29 : decode cX11_listen 29 = .ok (.getfield 193, 3) := by decide +kernel
theorem dX11_listen_32 : decode cX11_listen 32 = .ok (.invokevirtual 223, 3) := by decide +kernel
theorem dX11_listen_35 : decode cX11_listen 35 = .ok (.checkcast 224, 3) := by decide +kernel
theorem dX11_listen_38 : decode cX11_listen 38 = .ok (.astore_n 3, 1) := by decide +kernel
theorem dX11_listen_39 : decode cX11_listen 39 = .ok (.iconst 0, 1) := by decide +kernel
theorem dX11_listen_40 : decode cX11_listen 40 = .ok (.istore 4, 2) := by decide +kernel
theorem dX11_listen_42 : decode cX11_listen 42 = .ok (.iload 4, 2) := by decide +kernel
theorem dX11_listen_44 : decode cX11_listen 44 = .ok (.aload_n 0, 1) := by decide +kernel
theorem dX11_listen_45 : decode cX11_listen 45 = .ok (.getfield 33, 3) := by decide +kernel
theorem dX11_listen_48 : decode cX11_listen 48 = .ok (.invokevirtual 248, 3) := by decide +kernel
theorem dX11_listen_51 : decode cX11_listen 51 = .ok (.if_icmp .ge 38, 3) := by decide +kernel
theorem dX11_listen_54 : decode cX11_listen 54 = .ok (.aload_n 0, 1) := by decide +kernel
theorem dX11_listen_55 : decode cX11_listen 55 = .ok (.getfield 33, 3) := by decide +kernel
theorem dX11_listen_58 : decode cX11_listen 58 = .ok (.iload 4, 2) := by decide +kernel
theorem dX11_listen_60 : decode cX11_listen 60 = .ok (.invokevirtual 251, 3) := by decide +kernel
theorem dX11_listen_63 : decode cX11_listen 63 = .ok (.iload_n 1, 1) := by decide +kernel
theorem dX11_listen_64 : decode cX11_listen 64 = .ok (.if_icmp .ne 19, 3) := by decide +kernel
theorem dX11_listen_67 : decode cX11_listen 67 = .ok (.aload_n 3, 1) := by decide +kernel
theorem dX11_listen_68 : decode cX11_listen 68 = .ok (.iload 4, 2) := by decide +kernel
theorem dX11_listen_70 : decode cX11_listen 70 = .ok (.aload_n 0, 1) := by decide +kernel
theorem dX11_listen_71 : decode cX11_listen 71 = .ok (.getfield 33, 3) := by decide +kernel
theorem dX11_listen_74 : decode cX11_listen 74 = .ok (.getfield 115, 3) := by decide +kernel
theorem dX11_listen_77 : decode cX11_listen 77 = .ok (.iconst 3, 1) := by decide +kernel
theorem dX11_listen_78 : decode cX11_listen 78 = .ok (.iaload, 1) := by decide +kernel
theorem dX11_listen_79 : decode cX11_listen 79 = .ok (.iload_n 2, 1) := by decide +kernel
theorem dX11_listen_80 : decode cX11_listen 80 = .ok (.invokestatic 238, 3) := by decide +kernel
theorem dX11_listen_83 : decode cX11_listen 83 = .ok (.iinc 4 1, 3) := by decide +kernel
theorem dX11_listen_86 : decode cX11_listen 86 = .ok (.goto (-44), 3) := by decide +kernel
theorem dX11_listen_89 : decode cX11_listen 89 = .ok (.aload_n 0, 1) := by decide +kernel
theorem dX11_listen_90 : decode cX11_listen 90 = .ok (.aload_n 3, 1) := by decide +kernel
theorem dX11_listen_91 : decode cX11_listen 91 = .ok (.invokevirtual 244, 3) := by decide +kernel
theorem dX11_listen_94 : decode cX11_listen 94 = .ok (.ireturn, 1) := by decide +kernel
theorem dX11_thorn_0 : decode cX11_thorn 0 = .ok (.aload_n 0, 1) := by decide +kernel
theorem dX11_thorn_1 : decode cX11_thorn 1 = .ok (.iload_n 1, 1) := by decide +kernel
theorem dX11_thorn_2 : decode cX11_thorn 2 = .ok (.invokevirtual 220, 3) := by decide +kernel
theorem dX11_thorn_5 : decode cX11_thorn 5 = .ok (.ifCond .ne 8, 3) := by decide +kernel
theorem dX11_thorn_8 : decode cX11_thorn 8 = .ok (.aload_n 0, 1) := by decide +kernel
theorem dX11_thorn_9 : decode cX11_thorn 9 = .ok (.invokevirtual 189, 3) := by decide +kernel
theorem dX11_thorn_12 : decode cX11_thorn 12 = .ok (.ireturn, 1) := by decide +kernel
theorem dX11_thorn_13 : decode cX11_thorn 13 = .ok (.aload_n 0, 1) := by decide +kernel
theorem dX11_thorn_14 : decode cX11_thorn 14 = .ok (.getfield 33, 3) := by decide +kernel
theorem dX11_thorn_17 : decode cX11_thorn 17 = .ok (.iload_n 1, 1) := by decide +kernel
theorem dX11_thorn_18 : decode cX11_thorn 18 = .ok (.aload_n 0, 1) := by decide +kernel
theorem dX11_thorn_19 : decode cX11_thorn 19 = .ok (.getfield 33, 3) := by decide +kernel
theorem dX11_thorn_22 : decode cX11_thorn 22 = .ok (.invokevirtual 254, 3) := by decide +kernel
theorem dX11_thorn_25 : decode cX11_thorn 25 = .ok (.isub, 1) := by decide +kernel
theorem dX11_thorn_26 : decode cX11_thorn 26 = .ok (.invokevirtual 231, 3) := by decide +kernel
theorem dX11_thorn_29 : decode cX11_thorn 29 = .ok (.istore_n 2, 1) := by decide +kernel
theorem dX11_thorn_30 : decode cX11_thorn 30 = .ok (.aload_n 0, 1) := by decide +kernel
theorem dX11_thorn_31 : decode cX11_thorn 31 = .ok (.getfield 33, 3) := by decide +kernel
theorem dX11_thorn_34 : decode cX11_thorn 34 = .ok (.aload_n 0, 1) := by decide +kernel
theorem dX11_thorn_35 : decode cX11_thorn 35 = .ok (.getfield 33, 3) := by decide +kernel
theorem dX11_thorn_38 : decode cX11_thorn 38 = .ok (.invokevirtual 254, 3) := by decide +kernel
theorem dX11_thorn_41 : decode cX11_thorn 41 = .ok (.iload_n 1, 1) := by decide +kernel
theorem dX11_thorn_42 : decode cX11_thorn 42 = .ok (.isub, 1) := by decide +kernel
theorem dX11_thorn_43 : decode cX11_thorn 43 = .ok (.invokevirtual 231, 3) := by decide +kernel
theorem dX11_thorn_46 : decode cX11_thorn 46 = .ok (.istore_n 3, 1) := by decide +kernel
theorem dX11_thorn_47 : decode cX11_thorn 47 = .ok (.aload_n 0, 1) := by decide +kernel
theorem dX11_thorn_48 : decode cX11_thorn 48 = .ok (.getfield 63, 3) := by decide +kernel
theorem dX11_thorn_51 : decode cX11_thorn 51 = .ok (.getfield 193, 3) := by decide +kernel
theorem dX11_thorn_54 : decode cX11_thorn 54 = .ok (.invokevirtual 223, 3) := by decide +kernel
theorem dX11_thorn_57 : decode cX11_thorn 57 = .ok (.checkcast 224, 3) := by decide +kernel
theorem dX11_thorn_60 : decode cX11_thorn 60 = .ok (.astore 4, 2) := by decide +kernel
theorem dX11_thorn_62 : decode cX11_thorn 62 = .ok (.aload 4, 2) := by decide +kernel
theorem dX11_thorn_64 : decode cX11_thorn 64 = .ok (.iload_n 2, 1) := by decide +kernel
theorem dX11_thorn_65 : decode cX11_thorn 65 = .ok (.invokestatic 257, 3) := by decide +kernel
theorem dX11_thorn_68 : decode cX11_thorn 68 = .ok (.iload_n 3, 1) := by decide +kernel
theorem dX11_thorn_69 : decode cX11_thorn 69 = .ok (.iload_n 2, 1) := by decide +kernel
theorem dX11_thorn_70 : decode cX11_thorn 70 = .ok (.if_icmp .eq 9, 3) := by decide +kernel
theorem dX11_thorn_73 : decode cX11_thorn 73 = .ok (.aload 4, 2) := by decide +kernel
theorem dX11_thorn_75 : decode cX11_thorn 75 = .ok (.iload_n 3, 1) := by decide +kernel
theorem dX11_thorn_76 : decode cX11_thorn 76 = .ok (.invokestatic 257, 3) := by decide +kernel
theorem dX11_thorn_79 : decode cX11_thorn 79 = .ok (.aload_n 0, 1) := by decide +kernel
theorem dX11_thorn_80 : decode cX11_thorn 80 = .ok (.aload 4, 2) := by decide +kernel
theorem dX11_thorn_82 : decode cX11_thorn 82 = .ok (.invokevirtual 244, 3) := by decide +kernel
theorem dX11_thorn_85 : decode cX11_thorn 85 = .ok (.ireturn, 1) := by decide +kernel
theorem dX11_weight_0 : decode cX11_weight 0 = .ok (.aload_n 0, 1) := by decide +kernel
theorem dX11_weight_1 : decode cX11_weight 1 = .ok (.iload_n 1, 1) := by decide +kernel
theorem dX11_weight_2 : decode cX11_weight 2 = .ok (.invokevirtual 261, 3) := by decide +kernel
theorem dX11_weight_5 : decode cX11_weight 5 = .ok (.aload_n 0, 1) := by decide +kernel
theorem dX11_weight_6 : decode cX11_weight 6 = .ok (.getfield 63, 3) := by decide +kernel
theorem dX11_weight_9 : decode cX11_weight 9 = .ok (.getfield 193, 3) := by decide +kernel
theorem dX11_weight_12 : decode cX11_weight 12 = .ok (.iload_n 1, 1) := by decide +kernel
theorem dX11_weight_13 : decode cX11_weight 13 = .ok (.laload, 1) := by decide +kernel
theorem dX11_weight_14 : decode cX11_weight 14 = .ok (.lreturn, 1) := by decide +kernel
theorem dX11_odds_0 : decode cX11_odds 0 = .ok (.aload_n 0, 1) := by decide +kernel
theorem dX11_odds_1 : decode cX11_odds 1 = .ok (.iload_n 1, 1) := by decide +kernel
theorem dX11_odds_2 : decode cX11_odds 2 = .ok (.invokevirtual 261, 3) := by decide +kernel
theorem dX11_odds_5 : decode cX11_odds 5 = .ok (.aload_n 0, 1) := by decide +kernel
theorem dX11_odds_6 : decode cX11_odds 6 = .ok (.getfield 63, 3) := by decide +kernel
theorem dX11_odds_9 : decode cX11_odds 9 = .ok (.getfield 193, 3) := by decide +kernel
theorem dX11_odds_12 : decode cX11_odds 12 = .ok (.iload_n 1, 1) := by decide +kernel
theorem dX11_odds_13 : decode cX11_odds 13 = .ok (.laload, 1) := by decide +kernel
theorem dX11_odds_14 : decode cX11_odds 14 = .ok (.aload_n 0, 1) := by decide +kernel
theorem dX11_odds_15 : decode cX11_odds 15 = .ok (.getfield 63, 3) := by decide +kernel
theorem dX11_odds_18 : decode cX11_odds 18 = .ok (.getfield 193, 3) := by decide +kernel
theorem dX11_odds_21 : decode cX11_odds 21 = .ok (.invokestatic 264, 3) := by decide +kernel
theorem dX11_odds_24 : decode cX11_odds 24 = .ok (.invokestatic 268, 3) := by decide +kernel
theorem dX11_odds_27 : decode cX11_odds 27 = .ok (.ireturn, 1) := by decide +kernel
theorem dX11_ofInch_0 : decode cX11_ofInch 0 = .ok (.aload_n 0, 1) := by decide +kernel
theorem dX11_ofInch_1 : decode cX11_ofInch 1 = .ok (.iload_n 1, 1) := by decide +kernel
theorem dX11_ofInch_2 : decode cX11_ofInch 2 = .ok (.invokevirtual 220, 3) := by decide +kernel
theorem dX11_ofInch_5 : decode cX11_ofInch 5 = .ok (.invokestatic 214, 3) := by decide +kernel
theorem dX11_ofInch_8 : decode cX11_ofInch 8 = .ok (.aload_n 0, 1) := by decide +kernel
theorem dX11_ofInch_9 : decode cX11_ofInch 9 = .ok (.getfield 63, 3) := by decide +kernel
theorem dX11_ofInch_12 : decode cX11_ofInch 12 = .ok (.getfield 193, 3) := by decide +kernel
theorem dX11_ofInch_15 : decode cX11_ofInch 15 = .ok (.iload_n 1, 1) := by decide +kernel
theorem dX11_ofInch_16 : decode cX11_ofInch 16 = .ok (.invokestatic 272, 3) := by decide +kernel
theorem dX11_ofInch_19 : decode cX11_ofInch 19 = .ok (.aload_n 0, 1) := by decide +kernel
theorem dX11_ofInch_20 : decode cX11_ofInch 20 = .ok (.getfield 63, 3) := by decide +kernel
theorem dX11_ofInch_23 : decode cX11_ofInch 23 = .ok (.getfield 193, 3) := by decide +kernel
theorem dX11_ofInch_26 : decode cX11_ofInch 26 = .ok (.invokestatic 264, 3) := by decide +kernel
theorem dX11_ofInch_29 : decode cX11_ofInch 29 = .ok (.invokestatic 268, 3) := by decide +kernel
theorem dX11_ofInch_32 : decode cX11_ofInch 32 = .ok (.ireturn, 1) := by decide +kernel
theorem dX11_ofSide_0 : decode cX11_ofSide 0 = .ok (.iload_n 1, 1) := by decide +kernel
theorem dX11_ofSide_1 : decode cX11_ofSide 1 = .ok (.iconst 0, 1) := by decide +kernel
theorem dX11_ofSide_2 : decode cX11_ofSide 2 = .ok (.iconst 3, 1) := by decide +kernel
theorem dX11_ofSide_3 : decode cX11_ofSide 3 = .ok (.invokestatic 78, 3) := by decide +kernel
theorem dX11_ofSide_6 : decode cX11_ofSide 6 = .ok (.invokestatic 214, 3) := by decide +kernel
theorem dX11_ofSide_9 : decode cX11_ofSide 9 = .ok (.aload_n 0, 1) := by decide +kernel
theorem dX11_ofSide_10 : decode cX11_ofSide 10 = .ok (.getfield 63, 3) := by decide +kernel
theorem dX11_ofSide_13 : decode cX11_ofSide 13 = .ok (.getfield 193, 3) := by decide +kernel
theorem dX11_ofSide_16 : decode cX11_ofSide 16 = .ok (.iload_n 1, 1) := by decide +kernel
theorem dX11_ofSide_17 : decode cX11_ofSide 17 = .ok (.invokestatic 276, 3) := by decide +kernel
theorem dX11_ofSide_20 : decode cX11_ofSide 20 = .ok (.aload_n 0, 1) := by decide +kernel
theorem dX11_ofSide_21 : decode cX11_ofSide 21 = .ok (.getfield 63, 3) := by decide +kernel
theorem dX11_ofSide_24 : decode cX11_ofSide 24 = .ok (.getfield 193, 3) := by decide +kernel
theorem dX11_ofSide_27 : decode cX11_ofSide 27 = .ok (.invokestatic 264, 3) := by decide +kernel
theorem dX11_ofSide_30 : decode cX11_ofSide 30 = .ok (.invokestatic 268, 3) := by decide +kernel
theorem dX11_ofSide_33 : decode cX11_ofSide 33 = .ok (.ireturn, 1) := by decide +kernel
theorem dX11_quarter_0 : decode cX11_quarter 0 = .ok (.iconst 0, 1) := by decide +kernel
theorem dX11_quarter_1 : decode cX11_quarter 1 = .ok (.istore_n 1, 1) := by decide +kernel
theorem dX11_quarter_2 : decode cX11_quarter 2 = .ok (.aload_n 0, 1) := by decide +kernel
theorem dX11_quarter_3 : decode cX11_quarter 3 = .ok (.iconst 0, 1) := by decide +kernel
theorem dX11_quarter_4 : decode cX11_quarter 4 = .ok (.invokevirtual 279, 3) := by decide +kernel
theorem dX11_quarter_7 : decode cX11_quarter 7 = .ok (.lstore_n 2, 1) := by decide +kernel
theorem dX11_quarter_8 : decode cX11_quarter 8 = .ok (.iconst 1, 1) := by decide +kernel
theorem dX11_quarter_9 : decode cX11_quarter 9 = .ok (.istore 4, 2) := by decide +kernel
theorem dX11_quarter_11 : decode cX11_quarter 11 = .ok (.iload 4, 2) := by decide +kernel
theorem dX11_quarter_13 : decode cX11_quarter 13 = .ok (.iconst 4, 1) := by decide +kernel
theorem dX11_quarter_14 : decode cX11_quarter 14 = .ok (.if_icmp .ge 30, 3) := by decide +kernel
theorem dX11_quarter_17 : decode cX11_quarter 17 = .ok (.aload_n 0, 1) := by decide +kernel
theorem dX11_quarter_18 : decode cX11_quarter 18 = .ok (.iload 4, 2) := by decide +kernel
theorem dX11_quarter_20 : decode cX11_quarter 20 = .ok (.invokevirtual 279, 3) := by decide +kernel
theorem dX11_quarter_23 : decode cX11_quarter 23 = .ok (.lstore 5, 2) := by decide +kernel
theorem dX11_quarter_25 : decode cX11_quarter 25 = .ok (.lload 5, 2) := by decide +kernel
theorem dX11_quarter_27 : decode cX11_quarter 27 = .ok (.lload_n 2, 1) := by decide +kernel
theorem dX11_quarter_28 : decode cX11_quarter 28 = .ok (.lcmp, 1) := by decide +kernel
theorem dX11_quarter_29 : decode cX11_quarter 29 = .ok (.ifCond .le 9, 3) := by decide +kernel
theorem dX11_quarter_32 : decode cX11_quarter 32 = .ok (.lload 5, 2) := by decide +kernel
theorem dX11_quarter_34 : decode cX11_quarter 34 = .ok (.lstore_n 2, 1) := by decide +kernel
theorem dX11_quarter_35 : decode cX11_quarter 35 = .ok (.iload 4, 2) := by decide +kernel
theorem dX11_quarter_37 : decode cX11_quarter 37 = .ok (.istore_n 1, 1) := by decide +kernel
theorem dX11_quarter_38 : decode cX11_quarter 38 = .ok (.iinc 4 1, 3) := by decide +kernel
theorem dX11_quarter_41 : decode cX11_quarter 41 = .ok (.goto (-30), 3) := by decide +kernel
theorem dX11_quarter_44 : decode cX11_quarter 44 = .ok (.iload_n 1, 1) := by decide +kernel
theorem dX11_quarter_45 : decode cX11_quarter 45 = .ok (.ireturn, 1) := by decide +kernel
theorem dX11_weightOfQuarter_0 : decode cX11_weightOfQuarter 0 = .ok (.lconst 0, 1) := by decide +kernel
theorem dX11_weightOfQuarter_1 : decode cX11_weightOfQuarter 1 = .ok (.lstore_n 2, 1) := by decide +kernel
theorem dX11_weightOfQuarter_2 : decode cX11_weightOfQuarter 2 = .ok (.iconst 0, 1) := by decide +kernel
theorem dX11_weightOfQuarter_3 : decode cX11_weightOfQuarter 3 = .ok (.istore 4, 2) := by decide +kernel
theorem dX11_weightOfQuarter_5 : decode cX11_weightOfQuarter 5 = .ok (.iload 4, 2) := by decide +kernel
theorem dX11_weightOfQuarter_7 : decode cX11_weightOfQuarter 7 = .ok (.aload_n 0, 1) := by decide +kernel
theorem dX11_weightOfQuarter_8 : decode cX11_weightOfQuarter 8 = .ok (.getfield 33, 3) := by decide +kernel
theorem dX11_weightOfQuarter_11 : decode cX11_weightOfQuarter 11 = .ok (.invokevirtual 248, 3) := by decide +kernel
theorem dX11_weightOfQuarter_14 : decode cX11_weightOfQuarter 14 = .ok (.if_icmp .ge 37, 3) := by decide +kernel
theorem dX11_weightOfQuarter_17 : decode cX11_weightOfQuarter 17 = .ok (.aload_n 0, 1) := by decide +kernel
theorem dX11_weightOfQuarter_18 : decode cX11_weightOfQuarter 18 = .ok (.getfield 33, 3) := by decide +kernel
theorem dX11_weightOfQuarter_21 : decode cX11_weightOfQuarter 21 = .ok (.iload 4, 2) := by decide +kernel
theorem dX11_weightOfQuarter_23 : decode cX11_weightOfQuarter 23 = .ok (.invokevirtual 251, 3) := by decide +kernel
theorem dX11_weightOfQuarter_26 : decode cX11_weightOfQuarter 26 = .ok (.iload_n 1, 1) := by decide +kernel
theorem dX11_weightOfQuarter_27 : decode cX11_weightOfQuarter 27 = .ok (.if_icmp .ne 18, 3) := by decide +kernel
theorem dX11_weightOfQuarter_30 : decode cX11_weightOfQuarter 30 = .ok (.lload_n 2, 1) := by decide +kernel
theorem dX11_weightOfQuarter_31 : decode cX11_weightOfQuarter 31 = .ok (.aload_n 0, 1) := by decide +kernel
theorem dX11_weightOfQuarter_32 : decode cX11_weightOfQuarter 32 = .ok (.getfield 63, 3) := by decide +kernel
theorem dX11_weightOfQuarter_35 : decode cX11_weightOfQuarter 35 = .ok (.getfield 193, 3) := by decide +kernel
theorem dX11_weightOfQuarter_38 : decode cX11_weightOfQuarter 38 = .ok (.iload 4, 2) := by decide +kernel
theorem dX11_weightOfQuarter_40 : decode cX11_weightOfQuarter 40 = .ok (.invokestatic 272, 3) := by decide +kernel
theorem dX11_weightOfQuarter_43 : decode cX11_weightOfQuarter 43 = .ok (.ladd, 1) := by decide +kernel
theorem dX11_weightOfQuarter_44 : decode cX11_weightOfQuarter 44 = .ok (.lstore_n 2, 1) := by decide +kernel
theorem dX11_weightOfQuarter_45 : decode cX11_weightOfQuarter 45 = .ok (.iinc 4 1, 3) := by decide +kernel
theorem dX11_weightOfQuarter_48 : decode cX11_weightOfQuarter 48 = .ok (.goto (-43), 3) := by decide +kernel
theorem dX11_weightOfQuarter_51 : decode cX11_weightOfQuarter 51 = .ok (.lload_n 2, 1) := by decide +kernel
theorem dX11_weightOfQuarter_52 : decode cX11_weightOfQuarter 52 = .ok (.lreturn, 1) := by decide +kernel
theorem dX11_believe_0 : decode cX11_believe 0 = .ok (.aload_n 0, 1) := by decide +kernel
theorem dX11_believe_1 : decode cX11_believe 1 = .ok (.aload_n 0, 1) := by decide +kernel
theorem dX11_believe_2 : decode cX11_believe 2 = .ok (.getfield 63, 3) := by decide +kernel
theorem dX11_believe_5 : decode cX11_believe 5 = .ok (.getfield 144, 3) := by decide +kernel
theorem dX11_believe_8 : decode cX11_believe 8 = .ok (.aload_n 0, 1) := by decide +kernel
theorem dX11_believe_9 : decode cX11_believe 9 = .ok (.getfield 63, 3) := by decide +kernel
theorem dX11_believe_12 : decode cX11_believe 12 = .ok (.getfield 147, 3) := by decide +kernel
theorem dX11_believe_15 : decode cX11_believe 15 = .ok (.aload_n 0, 1) := by decide +kernel
theorem dX11_believe_16 : decode cX11_believe 16 = .ok (.getfield 63, 3) := by decide +kernel
theorem dX11_believe_19 : decode cX11_believe 19 = .ok (.getfield 176, 3) := by decide +kernel
theorem dX11_believe_22 : decode cX11_believe 22 = .ok (.aload_n 1, 1) := by decide +kernel
theorem dX11_believe_23 : decode cX11_believe 23 = .ok (.invokevirtual 197, 3) := by decide +kernel
theorem dX11_believe_26 : decode cX11_believe 26 = .ok (.aload_n 0, 1) := by decide +kernel
theorem dX11_believe_27 : decode cX11_believe 27 = .ok (.getfield 19, 3) := by decide +kernel
theorem dX11_believe_30 : decode cX11_believe 30 = .ok (.invokevirtual 112, 3) := by decide +kernel
theorem dX11_believe_33 : decode cX11_believe 33 = .ok (.aload_n 1, 1) := by decide +kernel
theorem dX11_believe_34 : decode cX11_believe 34 = .ok (.invokestatic 283, 3) := by decide +kernel
theorem dX11_believe_37 : decode cX11_believe 37 = .ok (.ireturn, 1) := by decide +kernel
theorem dX11_next_0 : decode cX11_next 0 = .ok (.iload_n 1, 1) := by decide +kernel
theorem dX11_next_1 : decode cX11_next 1 = .ok (.iconst 0, 1) := by decide +kernel
theorem dX11_next_2 : decode cX11_next 2 = .ok (.iconst 2, 1) := by decide +kernel
theorem dX11_next_3 : decode cX11_next 3 = .ok (.invokestatic 78, 3) := by decide +kernel
theorem dX11_next_6 : decode cX11_next 6 = .ok (.invokestatic 214, 3) := by decide +kernel
theorem dX11_next_9 : decode cX11_next 9 = .ok (.iload_n 1, 1) := by decide +kernel
theorem dX11_next_10 : decode cX11_next 10 = .ok (.ifCond .ne 14, 3) := by decide +kernel
theorem dX11_next_13 : decode cX11_next 13 = .ok (.aload_n 0, 1) := by decide +kernel
theorem dX11_next_14 : decode cX11_next 14 = .ok (.getfield 63, 3) := by decide +kernel
theorem dX11_next_17 : decode cX11_next 17 = .ok (.getfield 193, 3) := by decide +kernel
theorem dX11_next_20 : decode cX11_next 20 = .ok (.invokestatic 283, 3) := by decide +kernel
theorem dX11_next_23 : decode cX11_next 23 = .ok (.ireturn, 1) := by decide +kernel
theorem dX11_next_24 : decode cX11_next 24 = .ok (.aload_n 0, 1) := by decide +kernel
theorem dX11_next_25 : decode cX11_next 25 = .ok (.invokevirtual 286, 3) := by decide +kernel
theorem dX11_next_28 : decode cX11_next 28 = .ok (.iload_n 1, 1) := by decide +kernel
theorem dX11_next_29 : decode cX11_next 29 = .ok (.iconst 1, 1) := by decide +kernel
theorem dX11_next_30 : decode cX11_next 30 = .ok (.if_icmp .ne 14, 3) := by decide +kernel
theorem dX11_next_33 : decode cX11_next 33 = .ok (.aload_n 0, 1) := by decide +kernel
theorem dX11_next_34 : decode cX11_next 34 = .ok (.getfield 19, 3) := by decide +kernel
theorem dX11_next_37 : decode cX11_next 37 = .ok (.iconst 0, 1) := by decide +kernel
theorem dX11_next_38 : decode cX11_next 38 = .ok (.invokevirtual 289, 3) := by decide +kernel
theorem dX11_next_41 : decode cX11_next 41 = .ok (.goto 10, 3) := by decide +kernel
theorem dX11_next_44 : decode cX11_next 44 = .ok (.aload_n 0, 1) := by decide +kernel
theorem dX11_next_45 : decode cX11_next 45 = .ok (.getfield 19, 3) := by decide +kernel
theorem dX11_next_48 : decode cX11_next 48 = .ok (.invokevirtual 292, 3) := by decide +kernel
theorem dX11_next_51 : decode cX11_next 51 = .ok (.ireturn, 1) := by decide +kernel
theorem dX11_plan_0 : decode cX11_plan 0 = .ok (.iload_n 1, 1) := by decide +kernel
theorem dX11_plan_1 : decode cX11_plan 1 = .ok (.iconst 0, 1) := by decide +kernel
theorem dX11_plan_2 : decode cX11_plan 2 = .ok (.sipush 600, 3) := by decide +kernel
theorem dX11_plan_5 : decode cX11_plan 5 = .ok (.invokestatic 78, 3) := by decide +kernel
theorem dX11_plan_8 : decode cX11_plan 8 = .ok (.invokestatic 82, 3) := by decide +kernel
theorem dX11_plan_11 : decode cX11_plan 11 = .ok (.aload_n 0, 1) := by decide +kernel
theorem dX11_plan_12 : decode cX11_plan 12 = .ok (.invokevirtual 286, 3) := by decide +kernel
theorem dX11_plan_15 : decode cX11_plan 15 = .ok (.aload_n 0, 1) := by decide +kernel
theorem dX11_plan_16 : decode cX11_plan 16 = .ok (.getfield 23, 3) := by decide +kernel
theorem dX11_plan_19 : decode cX11_plan 19 = .ok (.iconst 0, 1) := by decide +kernel
theorem dX11_plan_20 : decode cX11_plan 20 = .ok (.invokestatic 295, 3) := by decide +kernel
theorem dX11_plan_23 : decode cX11_plan 23 = .ok (.iconst 0, 1) := by decide +kernel
theorem dX11_plan_24 : decode cX11_plan 24 = .ok (.istore_n 2, 1) := by decide +kernel
theorem dX11_plan_25 : decode cX11_plan 25 = .ok (.iconst 0, 1) := by decide +kernel
theorem dX11_plan_26 : decode cX11_plan 26 = .ok (.istore_n 3, 1) := by decide +kernel
theorem dX11_plan_27 : decode cX11_plan 27 = .ok (.iload_n 3, 1) := by decide +kernel
theorem dX11_plan_28 : decode cX11_plan 28 = .ok (.iload_n 1, 1) := by decide +kernel
theorem dX11_plan_29 : decode cX11_plan 29 = .ok (.if_icmp .ge 48, 3) := by decide +kernel
theorem dX11_plan_32 : decode cX11_plan 32 = .ok (.aload_n 0, 1) := by decide +kernel
theorem dX11_plan_33 : decode cX11_plan 33 = .ok (.getfield 19, 3) := by decide +kernel
theorem dX11_plan_36 : decode cX11_plan 36 = .ok (.iload_n 3, 1) := by decide +kernel
theorem dX11_plan_37 : decode cX11_plan 37 = .ok (.invokevirtual 289, 3) := by decide +kernel
theorem dX11_plan_40 : decode cX11_plan 40 = .ok (.istore 4, 2) := by decide +kernel
theorem dX11_plan_42 : decode cX11_plan 42 = .ok (.iload_n 2, 1) := by decide +kernel
theorem dX11_plan_43 : decode cX11_plan 43 = .ok (.aload_n 0, 1) := by decide +kernel
theorem dX11_plan_44 : decode cX11_plan 44 = .ok (.getfield 23, 3) := by decide +kernel
theorem dX11_plan_47 : decode cX11_plan 47 = .ok (.iload 4, 2) := by decide +kernel
theorem dX11_plan_49 : decode cX11_plan 49 = .ok (.iaload, 1) := by decide +kernel
theorem dX11_plan_50 : decode cX11_plan 50 = .ok (.ifCond .ne 7, 3) := by decide +kernel
theorem dX11_plan_53 : decode cX11_plan 53 = .ok (.iconst 1, 1) := by decide +kernel
theorem dX11_plan_54 : decode cX11_plan 54 = .ok (.goto 4, 3) := by decide +kernel
theorem dX11_plan_57 : decode cX11_plan 57 = .ok (.iconst 0, 1) := by decide +kernel
theorem dX11_plan_58 : decode cX11_plan 58 = .ok (.iadd, 1) := by decide +kernel
theorem dX11_plan_59 : decode cX11_plan 59 = .ok (.istore_n 2, 1) := by decide +kernel
theorem dX11_plan_60 : decode cX11_plan 60 = .ok (.aload_n 0, 1) := by decide +kernel
theorem dX11_plan_61 : decode cX11_plan 61 = .ok (.getfield 23, 3) := by decide +kernel
theorem dX11_plan_64 : decode cX11_plan 64 = .ok (.iload 4, 2) := by decide +kernel
theorem dX11_plan_66 : decode cX11_plan 66 = .ok (.dup2, 1) := by decide +kernel
theorem dX11_plan_67 : decode cX11_plan 67 = .ok (.iaload, 1) := by decide +kernel
theorem dX11_plan_68 : decode cX11_plan 68 = .ok (.iconst 1, 1) := by decide +kernel
theorem dX11_plan_69 : decode cX11_plan 69 = .ok (.iadd, 1) := by decide +kernel
theorem dX11_plan_70 : decode cX11_plan 70 = .ok (.iastore, 1) := by decide +kernel
theorem dX11_plan_71 : decode cX11_plan 71 = .ok (.iinc 3 1, 3) := by decide +kernel
theorem dX11_plan_74 : decode cX11_plan 74 = .ok (.goto (-47), 3) := by decide +kernel
theorem dX11_plan_77 : decode cX11_plan 77 = .ok (.aload_n 0, 1) := by decide +kernel
theorem dX11_plan_78 : decode cX11_plan 78 = .ok (.iconst 1, 1) := by decide +kernel
theorem dX11_plan_79 : decode cX11_plan 79 = .ok (.putfield 108, 3) := by decide +kernel
theorem dX11_plan_82 : decode cX11_plan 82 = .ok (.iload_n 2, 1) := by decide +kernel
theorem dX11_plan_83 : decode cX11_plan 83 = .ok (.ireturn, 1) := by decide +kernel
theorem dX11_planned_0 : decode cX11_planned 0 = .ok (.aload_n 0, 1) := by decide +kernel
theorem dX11_planned_1 : decode cX11_planned 1 = .ok (.getfield 108, 3) := by decide +kernel
theorem dX11_planned_4 : decode cX11_planned 4 = .ok (.ifCond .eq 15, 3) := by decide +kernel
theorem dX11_planned_7 : decode cX11_planned 7 = .ok (.aload_n 0, 1) := by decide +kernel
theorem dX11_planned_8 : decode cX11_planned 8 = .ok (.iload_n 1, 1) := by decide +kernel
theorem dX11_planned_9 : decode cX11_planned 9 = .ok (.invokevirtual 220, 3) := by decide +kernel
theorem dX11_planned_12 : decode cX11_planned 12 = .ok (.ifCond .eq 7, 3) := by decide +kernel
theorem dX11_planned_15 : decode cX11_planned 15 = .ok (.iconst 1, 1) := by decide +kernel
theorem dX11_planned_16 : decode cX11_planned 16 = .ok (.goto 4, 3) := by decide +kernel
theorem dX11_planned_19 : decode cX11_planned 19 = .ok (.iconst 0, 1) := by decide +kernel
theorem dX11_planned_20 : decode cX11_planned 20 = .ok (.invokestatic 214, 3) := by decide +kernel
theorem dX11_planned_23 : decode cX11_planned 23 = .ok (.aload_n 0, 1) := by decide +kernel
theorem dX11_planned_24 : decode cX11_planned 24 = .ok (.getfield 23, 3) := by decide +kernel
theorem dX11_planned_27 : decode cX11_planned 27 = .ok (.iload_n 1, 1) := by decide +kernel
theorem dX11_planned_28 : decode cX11_planned 28 = .ok (.iaload, 1) := by decide +kernel
theorem dX11_planned_29 : decode cX11_planned 29 = .ok (.ireturn, 1) := by decide +kernel
theorem dX11_enough_0 : decode cX11_enough 0 = .ok (.iload_n 1, 1) := by decide +kernel
theorem dX11_enough_1 : decode cX11_enough 1 = .ok (.iconst 0, 1) := by decide +kernel
theorem dX11_enough_2 : decode cX11_enough 2 = .ok (.sipush 1000, 3) := by decide +kernel
theorem dX11_enough_5 : decode cX11_enough 5 = .ok (.invokestatic 78, 3) := by decide +kernel
theorem dX11_enough_8 : decode cX11_enough 8 = .ok (.invokestatic 82, 3) := by decide +kernel
theorem dX11_enough_11 : decode cX11_enough 11 = .ok (.aload_n 0, 1) := by decide +kernel
theorem dX11_enough_12 : decode cX11_enough 12 = .ok (.invokevirtual 286, 3) := by decide +kernel
theorem dX11_enough_15 : decode cX11_enough 15 = .ok (.aload_n 0, 1) := by decide +kernel
theorem dX11_enough_16 : decode cX11_enough 16 = .ok (.getfield 19, 3) := by decide +kernel
theorem dX11_enough_19 : decode cX11_enough 19 = .ok (.iconst 0, 1) := by decide +kernel
theorem dX11_enough_20 : decode cX11_enough 20 = .ok (.invokevirtual 301, 3) := by decide +kernel
theorem dX11_enough_23 : decode cX11_enough 23 = .ok (.ldc2_w 304, 3) := by decide +kernel
theorem dX11_enough_26 : decode cX11_enough 26 = .ok (.ldiv, 1) := by decide +kernel
theorem dX11_enough_27 : decode cX11_enough 27 = .ok (.iload_n 1, 1) := by decide +kernel
theorem dX11_enough_28 : decode cX11_enough 28 = .ok (.i2l, 1) := by decide +kernel
theorem dX11_enough_29 : decode cX11_enough 29 = .ok (.lmul, 1) := by decide +kernel
theorem dX11_enough_30 : decode cX11_enough 30 = .ok (.lstore_n 2, 1) := by decide +kernel
theorem dX11_enough_31 : decode cX11_enough 31 = .ok (.iconst 0, 1) := by decide +kernel
theorem dX11_enough_32 : decode cX11_enough 32 = .ok (.istore 4, 2) := by decide +kernel
theorem dX11_enough_34 : decode cX11_enough 34 = .ok (.iload 4, 2) := by decide +kernel
theorem dX11_enough_36 : decode cX11_enough 36 = .ok (.sipush 600, 3) := by decide +kernel
theorem dX11_enough_39 : decode cX11_enough 39 = .ok (.if_icmp .gt 26, 3) := by decide +kernel
theorem dX11_enough_42 : decode cX11_enough 42 = .ok (.aload_n 0, 1) := by decide +kernel
theorem dX11_enough_43 : decode cX11_enough 43 = .ok (.getfield 19, 3) := by decide +kernel
theorem dX11_enough_46 : decode cX11_enough 46 = .ok (.iload 4, 2) := by decide +kernel
theorem dX11_enough_48 : decode cX11_enough 48 = .ok (.invokevirtual 301, 3) := by decide +kernel
theorem dX11_enough_51 : decode cX11_enough 51 = .ok (.lload_n 2, 1) := by decide +kernel
theorem dX11_enough_52 : decode cX11_enough 52 = .ok (.lcmp, 1) := by decide +kernel
theorem dX11_enough_53 : decode cX11_enough 53 = .ok (.ifCond .gt 6, 3) := by decide +kernel
theorem dX11_enough_56 : decode cX11_enough 56 = .ok (.iload 4, 2) := by decide +kernel
theorem dX11_enough_58 : decode cX11_enough 58 = .ok (.ireturn, 1) := by decide +kernel
theorem dX11_enough_59 : decode cX11_enough 59 = .ok (.iinc 4 1, 3) := by decide +kernel
theorem dX11_enough_62 : decode cX11_enough 62 = .ok (.goto (-28), 3) := by decide +kernel
theorem dX11_enough_65 : decode cX11_enough 65 = .ok (.iconst (-1), 1) := by decide +kernel
theorem dX11_enough_66 : decode cX11_enough 66 = .ok (.ireturn, 1) := by decide +kernel
theorem dX11_seek_0 : decode cX11_seek 0 = .ok (.iload_n 3, 1) := by decide +kernel
theorem dX11_seek_1 : decode cX11_seek 1 = .ok (.iconst 0, 1) := by decide +kernel
theorem dX11_seek_2 : decode cX11_seek 2 = .ok (.iconst 1, 1) := by decide +kernel
theorem dX11_seek_3 : decode cX11_seek 3 = .ok (.invokestatic 78, 3) := by decide +kernel
theorem dX11_seek_6 : decode cX11_seek 6 = .ok (.invokestatic 214, 3) := by decide +kernel
theorem dX11_seek_9 : decode cX11_seek 9 = .ok (.aload_n 0, 1) := by decide +kernel
theorem dX11_seek_10 : decode cX11_seek 10 = .ok (.iload_n 1, 1) := by decide +kernel
theorem dX11_seek_11 : decode cX11_seek 11 = .ok (.aload_n 0, 1) := by decide +kernel
theorem dX11_seek_12 : decode cX11_seek 12 = .ok (.iload_n 2, 1) := by decide +kernel
theorem dX11_seek_13 : decode cX11_seek 13 = .ok (.invokevirtual 181, 3) := by decide +kernel
theorem dX11_seek_16 : decode cX11_seek 16 = .ok (.iconst 0, 1) := by decide +kernel
theorem dX11_seek_17 : decode cX11_seek 17 = .ok (.invokevirtual 306, 3) := by decide +kernel
theorem dX11_seek_20 : decode cX11_seek 20 = .ok (.iload_n 3, 1) := by decide +kernel
theorem dX11_seek_21 : decode cX11_seek 21 = .ok (.invokestatic 310, 3) := by decide +kernel
theorem dX11_seek_24 : decode cX11_seek 24 = .ok (.ireturn, 1) := by decide +kernel
theorem dX11_sweep_0 : decode cX11_sweep 0 = .ok (.iload 4, 2) := by decide +kernel
theorem dX11_sweep_2 : decode cX11_sweep 2 = .ok (.iconst 0, 1) := by decide +kernel
theorem dX11_sweep_3 : decode cX11_sweep 3 = .ok (.iconst 1, 1) := by decide +kernel
theorem dX11_sweep_4 : decode cX11_sweep 4 = .ok (.invokestatic 78, 3) := by decide +kernel
theorem dX11_sweep_7 : decode cX11_sweep 7 = .ok (.invokestatic 214, 3) := by decide +kernel
theorem dX11_sweep_10 : decode cX11_sweep 10 = .ok (.iload_n 3, 1) := by decide +kernel
theorem dX11_sweep_11 : decode cX11_sweep 11 = .ok (.iconst 1, 1) := by decide +kernel
theorem dX11_sweep_12 : decode cX11_sweep 12 = .ok (.bipush 60, 2) := by decide +kernel
theorem dX11_sweep_14 : decode cX11_sweep 14 = .ok (.invokestatic 78, 3) := by decide +kernel
theorem dX11_sweep_17 : decode cX11_sweep 17 = .ok (.invokestatic 82, 3) := by decide +kernel
theorem dX11_sweep_20 : decode cX11_sweep 20 = .ok (.aload_n 0, 1) := by decide +kernel
theorem dX11_sweep_21 : decode cX11_sweep 21 = .ok (.iload_n 1, 1) := by decide +kernel
theorem dX11_sweep_22 : decode cX11_sweep 22 = .ok (.aload_n 0, 1) := by decide +kernel
theorem dX11_sweep_23 : decode cX11_sweep 23 = .ok (.iload_n 2, 1) := by decide +kernel
theorem dX11_sweep_24 : decode cX11_sweep 24 = .ok (.invokevirtual 181, 3) := by decide +kernel
theorem dX11_sweep_27 : decode cX11_sweep 27 = .ok (.iload_n 3, 1) := by decide +kernel
theorem dX11_sweep_28 : decode cX11_sweep 28 = .ok (.invokevirtual 306, 3) := by decide +kernel
theorem dX11_sweep_31 : decode cX11_sweep 31 = .ok (.iload 4, 2) := by decide +kernel
theorem dX11_sweep_33 : decode cX11_sweep 33 = .ok (.invokestatic 310, 3) := by decide +kernel
theorem dX11_sweep_36 : decode cX11_sweep 36 = .ok (.ireturn, 1) := by decide +kernel
theorem dX11_seeks_0 : decode cX11_seeks 0 = .ok (.iload 4, 2) := by decide +kernel
theorem dX11_seeks_2 : decode cX11_seeks 2 = .ok (.iconst 0, 1) := by decide +kernel
theorem dX11_seeks_3 : decode cX11_seeks 3 = .ok (.iconst 2, 1) := by decide +kernel
theorem dX11_seeks_4 : decode cX11_seeks 4 = .ok (.invokestatic 78, 3) := by decide +kernel
theorem dX11_seeks_7 : decode cX11_seeks 7 = .ok (.invokestatic 214, 3) := by decide +kernel
theorem dX11_seeks_10 : decode cX11_seeks 10 = .ok (.iload_n 2, 1) := by decide +kernel
theorem dX11_seeks_11 : decode cX11_seeks 11 = .ok (.iconst 0, 1) := by decide +kernel
theorem dX11_seeks_12 : decode cX11_seeks 12 = .ok (.bipush 30, 2) := by decide +kernel
theorem dX11_seeks_14 : decode cX11_seeks 14 = .ok (.invokestatic 78, 3) := by decide +kernel
theorem dX11_seeks_17 : decode cX11_seeks 17 = .ok (.invokestatic 82, 3) := by decide +kernel
theorem dX11_seeks_20 : decode cX11_seeks 20 = .ok (.aload_n 0, 1) := by decide +kernel
theorem dX11_seeks_21 : decode cX11_seeks 21 = .ok (.iload_n 3, 1) := by decide +kernel
theorem dX11_seeks_22 : decode cX11_seeks 22 = .ok (.invokevirtual 181, 3) := by decide +kernel
theorem dX11_seeks_25 : decode cX11_seeks 25 = .ok (.istore 5, 2) := by decide +kernel
theorem dX11_seeks_27 : decode cX11_seeks 27 = .ok (.iconst 0, 1) := by decide +kernel
theorem dX11_seeks_28 : decode cX11_seeks 28 = .ok (.istore 6, 2) := by decide +kernel
theorem dX11_seeks_30 : decode cX11_seeks 30 = .ok (.iconst 0, 1) := by decide +kernel
theorem dX11_seeks_31 : decode cX11_seeks 31 = .ok (.istore 7, 2) := by decide +kernel
theorem dX11_seeks_33 : decode cX11_seeks 33 = .ok (.iconst 0, 1) := by decide +kernel
theorem dX11_seeks_34 : decode cX11_seeks 34 = .ok (.istore 8, 2) := by decide +kernel
theorem dX11_seeks_36 : decode cX11_seeks 36 = .ok (.iconst 0, 1) := by decide +kernel
theorem dX11_seeks_37 : decode cX11_seeks 37 = .ok (.istore 9, 2) := by decide +kernel
theorem dX11_seeks_39 : decode cX11_seeks 39 = .ok (.iload 9, 2) := by decide +kernel
theorem dX11_seeks_41 : decode cX11_seeks 41 = .ok (.iload_n 2, 1) := by decide +kernel
theorem dX11_seeks_42 : decode cX11_seeks 42 = .ok (.if_icmp .ge 55, 3) := by decide +kernel
theorem dX11_seeks_45 : decode cX11_seeks 45 = .ok (.aload_n 0, 1) := by decide +kernel
theorem dX11_seeks_46 : decode cX11_seeks 46 = .ok (.iload_n 1, 1) := by decide +kernel
theorem dX11_seeks_47 : decode cX11_seeks 47 = .ok (.iload 9, 2) := by decide +kernel
theorem dX11_seeks_49 : decode cX11_seeks 49 = .ok (.iadd, 1) := by decide +kernel
theorem dX11_seeks_50 : decode cX11_seeks 50 = .ok (.iload 5, 2) := by decide +kernel
theorem dX11_seeks_52 : decode cX11_seeks 52 = .ok (.iconst 0, 1) := by decide +kernel
theorem dX11_seeks_53 : decode cX11_seeks 53 = .ok (.invokevirtual 306, 3) := by decide +kernel
theorem dX11_seeks_56 : decode cX11_seeks 56 = .ok (.istore 10, 2) := by decide +kernel
theorem dX11_seeks_58 : decode cX11_seeks 58 = .ok (.iload 10, 2) := by decide +kernel
theorem dX11_seeks_60 : decode cX11_seeks 60 = .ok (.iconst (-1), 1) := by decide +kernel
theorem dX11_seeks_61 : decode cX11_seeks 61 = .ok (.if_icmp .eq 30, 3) := by decide +kernel
theorem dX11_seeks_64 : decode cX11_seeks 64 = .ok (.iload 10, 2) := by decide +kernel
theorem dX11_seeks_66 : decode cX11_seeks 66 = .ok (.iconst 0, 1) := by decide +kernel
theorem dX11_seeks_67 : decode cX11_seeks 67 = .ok (.invokestatic 310, 3) := by decide +kernel
theorem dX11_seeks_70 : decode cX11_seeks 70 = .ok (.istore 11, 2) := by decide +kernel
theorem dX11_seeks_72 : decode cX11_seeks 72 = .ok (.iinc 6 1, 3) := by decide +kernel
theorem dX11_seeks_75 : decode cX11_seeks 75 = .ok (.iload 7, 2) := by decide +kernel
theorem dX11_seeks_77 : decode cX11_seeks 77 = .ok (.iload 11, 2) := by decide +kernel
theorem dX11_seeks_79 : decode cX11_seeks 79 = .ok (.iadd, 1) := by decide +kernel
theorem dX11_seeks_80 : decode cX11_seeks 80 = .ok (.istore 7, 2) := by decide +kernel
theorem dX11_seeks_82 : decode cX11_seeks 82 = .ok (.iload 8, 2) := by decide +kernel
theorem dX11_seeks_84 : decode cX11_seeks 84 = .ok (.iload 11, 2) := by decide +kernel
theorem dX11_seeks_86 : decode cX11_seeks 86 = .ok (.invokestatic 314, 3) := by decide +kernel
theorem dX11_seeks_89 : decode cX11_seeks 89 = .ok (.istore 8, 2) := by decide +kernel
theorem dX11_seeks_91 : decode cX11_seeks 91 = .ok (.iinc 9 1, 3) := by decide +kernel
theorem dX11_seeks_94 : decode cX11_seeks 94 = .ok (.goto (-55), 3) := by decide +kernel
theorem dX11_seeks_97 : decode cX11_seeks 97 = .ok (.iload 4, 2) := by decide +kernel
theorem dX11_seeks_99 : decode cX11_seeks 99 = .ok (.ifCond .ne 8, 3) := by decide +kernel
theorem dX11_seeks_102 : decode cX11_seeks 102 = .ok (.iload 6, 2) := by decide +kernel
theorem dX11_seeks_104 : decode cX11_seeks 104 = .ok (.goto 16, 3) := by decide +kernel
theorem dX11_seeks_107 : decode cX11_seeks 107 = .ok (.iload 4, 2) := by decide +kernel
theorem dX11_seeks_109 : decode cX11_seeks 109 = .ok (.iconst 1, 1) := by decide +kernel
theorem dX11_seeks_110 : decode cX11_seeks 110 = .ok (.if_icmp .ne 8, 3) := by decide +kernel
theorem dX11_seeks_113 : decode cX11_seeks 113 = .ok (.iload 7, 2) := by decide +kernel
theorem dX11_seeks_115 : decode cX11_seeks 115 = .ok (.goto 5, 3) := by decide +kernel
theorem dX11_seeks_118 : decode cX11_seeks 118 = .ok (.iload 8, 2) := by decide +kernel
theorem dX11_seeks_120 : decode cX11_seeks 120 = .ok (.ireturn, 1) := by decide +kernel
theorem dX11_setOut_0 : decode cX11_setOut 0 = .ok (.aload_n 0, 1) := by decide +kernel
theorem dX11_setOut_1 : decode cX11_setOut 1 = .ok (.getfield 19, 3) := by decide +kernel
theorem dX11_setOut_4 : decode cX11_setOut 4 = .ok (.getfield 319, 3) := by decide +kernel
theorem dX11_setOut_7 : decode cX11_setOut 7 = .ok (.ifCond .ne 21, 3) := by decide +kernel
theorem dX11_setOut_10 : decode cX11_setOut 10 = .ok (.aload_n 0, 1) := by decide +kernel
theorem dX11_setOut_11 : decode cX11_setOut 11 = .ok (.getfield 19, 3) := by decide +kernel
theorem dX11_setOut_14 : decode cX11_setOut 14 = .ok (.aload_n 0, 1) := by decide +kernel
theorem dX11_setOut_15 : decode cX11_setOut 15 = .ok (.getfield 33, 3) := by decide +kernel
theorem dX11_setOut_18 : decode cX11_setOut 18 = .ok (.aload_n 0, 1) := by decide +kernel
theorem dX11_setOut_19 : decode cX11_setOut 19 = .ok (.getfield 63, 3) := by decide +kernel
theorem dX11_setOut_22 : decode cX11_setOut 22 = .ok (.getfield 193, 3) := by decide +kernel
theorem dX11_setOut_25 : decode cX11_setOut 25 = .ok (.invokevirtual 322, 3) := by decide +kernel
theorem dX11_setOut_28 : decode cX11_setOut 28 = .ok (.return_, 1) := by decide +kernel
theorem dX11_findBy_0 : decode cX11_findBy 0 = .ok (.iload_n 2, 1) := by decide +kernel
theorem dX11_findBy_1 : decode cX11_findBy 1 = .ok (.ifCond .ne 5, 3) := by decide +kernel
theorem dX11_findBy_4 : decode cX11_findBy 4 = .ok (.iconst (-1), 1) := by decide +kernel
theorem dX11_findBy_5 : decode cX11_findBy 5 = .ok (.ireturn, 1) := by decide +kernel
theorem dX11_findBy_6 : decode cX11_findBy 6 = .ok (.iload_n 3, 1) := by decide +kernel
theorem dX11_findBy_7 : decode cX11_findBy 7 = .ok (.ifCond .ne 7, 3) := by decide +kernel
theorem dX11_findBy_10 : decode cX11_findBy 10 = .ok (.aload_n 0, 1) := by decide +kernel
theorem dX11_findBy_11 : decode cX11_findBy 11 = .ok (.invokevirtual 286, 3) := by decide +kernel
theorem dX11_findBy_14 : decode cX11_findBy 14 = .ok (.iload_n 1, 1) := by decide +kernel
theorem dX11_findBy_15 : decode cX11_findBy 15 = .ok (.istore 4, 2) := by decide +kernel
theorem dX11_findBy_17 : decode cX11_findBy 17 = .ok (.iconst 0, 1) := by decide +kernel
theorem dX11_findBy_18 : decode cX11_findBy 18 = .ok (.istore 5, 2) := by decide +kernel
theorem dX11_findBy_20 : decode cX11_findBy 20 = .ok (.iload 5, 2) := by decide +kernel
theorem dX11_findBy_22 : decode cX11_findBy 22 = .ok (.sipush 600, 3) := by decide +kernel
theorem dX11_findBy_25 : decode cX11_findBy 25 = .ok (.if_icmp .ge 129, 3) := by decide +kernel
theorem dX11_findBy_28 : decode cX11_findBy 28 = .ok (.iload_n 3, 1) := by decide +kernel
theorem dX11_findBy_29 : decode cX11_findBy 29 = .ok (.ifCond .ne 15, 3) := by decide +kernel
theorem dX11_findBy_32 : decode cX11_findBy 32 = .ok (.aload_n 0, 1) := by decide +kernel
theorem dX11_findBy_33 : decode cX11_findBy 33 = .ok (.getfield 19, 3) := by decide +kernel
theorem dX11_findBy_36 : decode cX11_findBy 36 = .ok (.iload 5, 2) := by decide +kernel
theorem dX11_findBy_38 : decode cX11_findBy 38 = .ok (.invokevirtual 289, 3) := by decide +kernel
theorem dX11_findBy_41 : decode cX11_findBy 41 = .ok (.goto 13, 3) := by decide +kernel
theorem dX11_findBy_44 : decode cX11_findBy 44 = .ok (.aload_n 0, 1) := by decide +kernel
theorem dX11_findBy_45 : decode cX11_findBy 45 = .ok (.getfield 33, 3) := by decide +kernel
theorem dX11_findBy_48 : decode cX11_findBy 48 = .ok (.iload 5, 2) := by decide +kernel
theorem dX11_findBy_50 : decode cX11_findBy 50 = .ok (.iload_n 3, 1) := by decide +kernel
theorem dX11_findBy_51 : decode cX11_findBy 51 = .ok (.invokevirtual 326, 3) := by decide +kernel
theorem dX11_findBy_54 : decode cX11_findBy 54 = .ok (.istore 6, 2) := by decide +kernel
theorem dX11_findBy_56 : decode cX11_findBy 56 = .ok (.iconst 0, 1) := by decide +kernel
theorem dX11_findBy_57 : decode cX11_findBy 57 = .ok (.istore 7, 2) := by decide +kernel
theorem dX11_findBy_59 : decode cX11_findBy 59 = .ok (.iload 7, 2) := by decide +kernel
theorem dX11_findBy_61 : decode cX11_findBy 61 = .ok (.aload_n 0, 1) := by decide +kernel
theorem dX11_findBy_62 : decode cX11_findBy 62 = .ok (.getfield 33, 3) := by decide +kernel
theorem dX11_findBy_65 : decode cX11_findBy 65 = .ok (.getfield 121, 3) := by decide +kernel
theorem dX11_findBy_68 : decode cX11_findBy 68 = .ok (.getfield 125, 3) := by decide +kernel
theorem dX11_findBy_71 : decode cX11_findBy 71 = .ok (.if_icmp .ge 77, 3) := by decide +kernel
theorem dX11_findBy_74 : decode cX11_findBy 74 = .ok (.iload_n 2, 1) := by decide +kernel
theorem dX11_findBy_75 : decode cX11_findBy 75 = .ok (.iload 7, 2) := by decide +kernel
theorem dX11_findBy_77 : decode cX11_findBy 77 = .ok (.ishr, 1) := by decide +kernel
theorem dX11_findBy_78 : decode cX11_findBy 78 = .ok (.iconst 1, 1) := by decide +kernel
theorem dX11_findBy_79 : decode cX11_findBy 79 = .ok (.iand, 1) := by decide +kernel
theorem dX11_findBy_80 : decode cX11_findBy 80 = .ok (.iconst 1, 1) := by decide +kernel
theorem dX11_findBy_81 : decode cX11_findBy 81 = .ok (.if_icmp .ne 61, 3) := by decide +kernel
theorem dX11_findBy_84 : decode cX11_findBy 84 = .ok (.aload_n 0, 1) := by decide +kernel
theorem dX11_findBy_85 : decode cX11_findBy 85 = .ok (.getfield 33, 3) := by decide +kernel
theorem dX11_findBy_88 : decode cX11_findBy 88 = .ok (.iload 6, 2) := by decide +kernel
theorem dX11_findBy_90 : decode cX11_findBy 90 = .ok (.aload_n 0, 1) := by decide +kernel
theorem dX11_findBy_91 : decode cX11_findBy 91 = .ok (.getfield 33, 3) := by decide +kernel
theorem dX11_findBy_94 : decode cX11_findBy 94 = .ok (.getfield 121, 3) := by decide +kernel
theorem dX11_findBy_97 : decode cX11_findBy 97 = .ok (.getfield 163, 3) := by decide +kernel
theorem dX11_findBy_100 : decode cX11_findBy 100 = .ok (.iload 7, 2) := by decide +kernel
theorem dX11_findBy_102 : decode cX11_findBy 102 = .ok (.iaload, 1) := by decide +kernel
theorem dX11_findBy_103 : decode cX11_findBy 103 = .ok (.invokevirtual 329, 3) := by decide +kernel
theorem dX11_findBy_106 : decode cX11_findBy 106 = .ok (.ifCond .eq 36, 3) := by decide +kernel
theorem dX11_findBy_109 : decode cX11_findBy 109 = .ok (.iload 4, 2) := by decide +kernel
theorem dX11_findBy_111 : decode cX11_findBy 111 = .ok (.invokestatic 333, 3) := by decide +kernel
theorem dX11_findBy_114 : decode cX11_findBy 114 = .ok (.istore 4, 2) := by decide +kernel
theorem dX11_findBy_116 : decode cX11_findBy 116 = .ok (.iload 4, 2) := by decide +kernel
theorem dX11_findBy_118 : decode cX11_findBy 118 = .ok (.invokestatic 336, 3) := by decide +kernel
theorem dX11_findBy_121 : decode cX11_findBy 121 = .ok (.aload_n 0, 1) := by decide +kernel
theorem dX11_findBy_122 : decode cX11_findBy 122 = .ok (.getfield 33, 3) := by decide +kernel
theorem dX11_findBy_125 : decode cX11_findBy 125 = .ok (.invokevirtual 235, 3) := by decide +kernel
theorem dX11_findBy_128 : decode cX11_findBy 128 = .ok (.if_icmp .lt 14, 3) := by decide +kernel
theorem dX11_findBy_131 : decode cX11_findBy 131 = .ok (.iload 5, 2) := by decide +kernel
theorem dX11_findBy_133 : decode cX11_findBy 133 = .ok (.iconst 1, 1) := by decide +kernel
theorem dX11_findBy_134 : decode cX11_findBy 134 = .ok (.iadd, 1) := by decide +kernel
theorem dX11_findBy_135 : decode cX11_findBy 135 = .ok (.bipush 6, 2) := by decide +kernel
theorem dX11_findBy_137 : decode cX11_findBy 137 = .ok (.imul, 1) := by decide +kernel
theorem dX11_findBy_138 : decode cX11_findBy 138 = .ok (.iload 7, 2) := by decide +kernel
theorem dX11_findBy_140 : decode cX11_findBy 140 = .ok (.iadd, 1) := by decide +kernel
theorem dX11_findBy_141 : decode cX11_findBy 141 = .ok (.ireturn, 1) := by decide +kernel
theorem dX11_findBy_142 : decode cX11_findBy 142 = .ok (.iinc 7 1, 3) := by decide +kernel
theorem dX11_findBy_145 : decode cX11_findBy 145 = .ok (.goto (-86), 3) := by decide +kernel
theorem dX11_findBy_148 : decode cX11_findBy 148 = .ok (.iinc 5 1, 3) := by decide +kernel
theorem dX11_findBy_151 : decode cX11_findBy 151 = .ok (.goto (-131), 3) := by decide +kernel
theorem dX11_findBy_154 : decode cX11_findBy 154 = .ok (.iconst (-1), 1) := by decide +kernel
theorem dX11_findBy_155 : decode cX11_findBy 155 = .ok (.ireturn, 1) := by decide +kernel
theorem dX11_partOfFind_0 : decode cX11_partOfFind 0 = .ok (.iload_n 0, 1) := by decide +kernel
theorem dX11_partOfFind_1 : decode cX11_partOfFind 1 = .ok (.iconst (-1), 1) := by decide +kernel
theorem dX11_partOfFind_2 : decode cX11_partOfFind 2 = .ok (.if_icmp .ne 5, 3) := by decide +kernel
theorem dX11_partOfFind_5 : decode cX11_partOfFind 5 = .ok (.iconst (-1), 1) := by decide +kernel
theorem dX11_partOfFind_6 : decode cX11_partOfFind 6 = .ok (.ireturn, 1) := by decide +kernel
theorem dX11_partOfFind_7 : decode cX11_partOfFind 7 = .ok (.iload_n 1, 1) := by decide +kernel
theorem dX11_partOfFind_8 : decode cX11_partOfFind 8 = .ok (.ifCond .ne 10, 3) := by decide +kernel
theorem dX11_partOfFind_11 : decode cX11_partOfFind 11 = .ok (.iload_n 0, 1) := by decide +kernel
theorem dX11_partOfFind_12 : decode cX11_partOfFind 12 = .ok (.bipush 6, 2) := by decide +kernel
theorem dX11_partOfFind_14 : decode cX11_partOfFind 14 = .ok (.idiv, 1) := by decide +kernel
theorem dX11_partOfFind_15 : decode cX11_partOfFind 15 = .ok (.goto 7, 3) := by decide +kernel
theorem dX11_partOfFind_18 : decode cX11_partOfFind 18 = .ok (.iload_n 0, 1) := by decide +kernel
theorem dX11_partOfFind_19 : decode cX11_partOfFind 19 = .ok (.bipush 6, 2) := by decide +kernel
theorem dX11_partOfFind_21 : decode cX11_partOfFind 21 = .ok (.irem, 1) := by decide +kernel
theorem dX11_partOfFind_22 : decode cX11_partOfFind 22 = .ok (.ireturn, 1) := by decide +kernel
theorem dX11_air_0 : decode cX11_air 0 = .ok (.iload_n 1, 1) := by decide +kernel
theorem dX11_air_1 : decode cX11_air 1 = .ok (.iconst 0, 1) := by decide +kernel
theorem dX11_air_2 : decode cX11_air 2 = .ok (.bipush 60, 2) := by decide +kernel
theorem dX11_air_4 : decode cX11_air 4 = .ok (.invokestatic 78, 3) := by decide +kernel
theorem dX11_air_7 : decode cX11_air 7 = .ok (.invokestatic 82, 3) := by decide +kernel
theorem dX11_air_10 : decode cX11_air 10 = .ok (.aload_n 0, 1) := by decide +kernel
theorem dX11_air_11 : decode cX11_air 11 = .ok (.getfield 33, 3) := by decide +kernel
theorem dX11_air_14 : decode cX11_air 14 = .ok (.getfield 115, 3) := by decide +kernel
theorem dX11_air_17 : decode cX11_air 17 = .ok (.bipush 6, 2) := by decide +kernel
theorem dX11_air_19 : decode cX11_air 19 = .ok (.iaload, 1) := by decide +kernel
theorem dX11_air_20 : decode cX11_air 20 = .ok (.i2l, 1) := by decide +kernel
theorem dX11_air_21 : decode cX11_air 21 = .ok (.ldc2_w 339, 3) := by decide +kernel
theorem dX11_air_24 : decode cX11_air 24 = .ok (.lmul, 1) := by decide +kernel
theorem dX11_air_25 : decode cX11_air 25 = .ok (.lstore_n 2, 1) := by decide +kernel
theorem dX11_air_26 : decode cX11_air 26 = .ok (.iconst 0, 1) := by decide +kernel
theorem dX11_air_27 : decode cX11_air 27 = .ok (.istore 4, 2) := by decide +kernel
theorem dX11_air_29 : decode cX11_air 29 = .ok (.iload 4, 2) := by decide +kernel
theorem dX11_air_31 : decode cX11_air 31 = .ok (.iload_n 1, 1) := by decide +kernel
theorem dX11_air_32 : decode cX11_air 32 = .ok (.if_icmp .ge 27, 3) := by decide +kernel
theorem dX11_air_35 : decode cX11_air 35 = .ok (.lload_n 2, 1) := by decide +kernel
theorem dX11_air_36 : decode cX11_air 36 = .ok (.aload_n 0, 1) := by decide +kernel
theorem dX11_air_37 : decode cX11_air 37 = .ok (.getfield 33, 3) := by decide +kernel
theorem dX11_air_40 : decode cX11_air 40 = .ok (.getfield 115, 3) := by decide +kernel
theorem dX11_air_43 : decode cX11_air 43 = .ok (.bipush 7, 2) := by decide +kernel
theorem dX11_air_45 : decode cX11_air 45 = .ok (.iaload, 1) := by decide +kernel
theorem dX11_air_46 : decode cX11_air 46 = .ok (.i2l, 1) := by decide +kernel
theorem dX11_air_47 : decode cX11_air 47 = .ok (.lmul, 1) := by decide +kernel
theorem dX11_air_48 : decode cX11_air 48 = .ok (.ldc2_w 341, 3) := by decide +kernel
theorem dX11_air_51 : decode cX11_air 51 = .ok (.ldiv, 1) := by decide +kernel
theorem dX11_air_52 : decode cX11_air 52 = .ok (.lstore_n 2, 1) := by decide +kernel
theorem dX11_air_53 : decode cX11_air 53 = .ok (.iinc 4 1, 3) := by decide +kernel
theorem dX11_air_56 : decode cX11_air 56 = .ok (.goto (-27), 3) := by decide +kernel
theorem dX11_air_59 : decode cX11_air 59 = .ok (.aload_n 0, 1) := by decide +kernel
theorem dX11_air_60 : decode cX11_air 60 = .ok (.lload_n 2, 1) := by decide +kernel
theorem dX11_air_61 : decode cX11_air 61 = .ok (.invokevirtual 343, 3) := by decide +kernel
theorem dX11_air_64 : decode cX11_air 64 = .ok (.ireturn, 1) := by decide +kernel
theorem dX11_line_0 : decode cX11_line 0 = .ok (.iload_n 1, 1) := by decide +kernel
theorem dX11_line_1 : decode cX11_line 1 = .ok (.iconst 0, 1) := by decide +kernel
theorem dX11_line_2 : decode cX11_line 2 = .ok (.sipush 1000, 3) := by decide +kernel
theorem dX11_line_5 : decode cX11_line 5 = .ok (.invokestatic 78, 3) := by decide +kernel
theorem dX11_line_8 : decode cX11_line 8 = .ok (.invokestatic 82, 3) := by decide +kernel
theorem dX11_line_11 : decode cX11_line 11 = .ok (.aload_n 0, 1) := by decide +kernel
theorem dX11_line_12 : decode cX11_line 12 = .ok (.getfield 33, 3) := by decide +kernel
theorem dX11_line_15 : decode cX11_line 15 = .ok (.getfield 115, 3) := by decide +kernel
theorem dX11_line_18 : decode cX11_line 18 = .ok (.bipush 6, 2) := by decide +kernel
theorem dX11_line_20 : decode cX11_line 20 = .ok (.iaload, 1) := by decide +kernel
theorem dX11_line_21 : decode cX11_line 21 = .ok (.i2l, 1) := by decide +kernel
theorem dX11_line_22 : decode cX11_line 22 = .ok (.ldc2_w 339, 3) := by decide +kernel
theorem dX11_line_25 : decode cX11_line 25 = .ok (.lmul, 1) := by decide +kernel
theorem dX11_line_26 : decode cX11_line 26 = .ok (.lstore_n 2, 1) := by decide +kernel
theorem dX11_line_27 : decode cX11_line 27 = .ok (.iconst 0, 1) := by decide +kernel
theorem dX11_line_28 : decode cX11_line 28 = .ok (.istore 4, 2) := by decide +kernel
theorem dX11_line_30 : decode cX11_line 30 = .ok (.iload 4, 2) := by decide +kernel
theorem dX11_line_32 : decode cX11_line 32 = .ok (.bipush 60, 2) := by decide +kernel
theorem dX11_line_34 : decode cX11_line 34 = .ok (.if_icmp .gt 39, 3) := by decide +kernel
theorem dX11_line_37 : decode cX11_line 37 = .ok (.aload_n 0, 1) := by decide +kernel
theorem dX11_line_38 : decode cX11_line 38 = .ok (.lload_n 2, 1) := by decide +kernel
theorem dX11_line_39 : decode cX11_line 39 = .ok (.invokevirtual 343, 3) := by decide +kernel
theorem dX11_line_42 : decode cX11_line 42 = .ok (.iload_n 1, 1) := by decide +kernel
theorem dX11_line_43 : decode cX11_line 43 = .ok (.if_icmp .lt 6, 3) := by decide +kernel
theorem dX11_line_46 : decode cX11_line 46 = .ok (.iload 4, 2) := by decide +kernel
theorem dX11_line_48 : decode cX11_line 48 = .ok (.ireturn, 1) := by decide +kernel
theorem dX11_line_49 : decode cX11_line 49 = .ok (.lload_n 2, 1) := by decide +kernel
theorem dX11_line_50 : decode cX11_line 50 = .ok (.aload_n 0, 1) := by decide +kernel
theorem dX11_line_51 : decode cX11_line 51 = .ok (.getfield 33, 3) := by decide +kernel
theorem dX11_line_54 : decode cX11_line 54 = .ok (.getfield 115, 3) := by decide +kernel
theorem dX11_line_57 : decode cX11_line 57 = .ok (.bipush 7, 2) := by decide +kernel
theorem dX11_line_59 : decode cX11_line 59 = .ok (.iaload, 1) := by decide +kernel
theorem dX11_line_60 : decode cX11_line 60 = .ok (.i2l, 1) := by decide +kernel
theorem dX11_line_61 : decode cX11_line 61 = .ok (.lmul, 1) := by decide +kernel
theorem dX11_line_62 : decode cX11_line 62 = .ok (.ldc2_w 341, 3) := by decide +kernel
theorem dX11_line_65 : decode cX11_line 65 = .ok (.ldiv, 1) := by decide +kernel
theorem dX11_line_66 : decode cX11_line 66 = .ok (.lstore_n 2, 1) := by decide +kernel
theorem dX11_line_67 : decode cX11_line 67 = .ok (.iinc 4 1, 3) := by decide +kernel
theorem dX11_line_70 : decode cX11_line 70 = .ok (.goto (-40), 3) := by decide +kernel
theorem dX11_line_73 : decode cX11_line 73 = .ok (.iconst (-1), 1) := by decide +kernel
theorem dX11_line_74 : decode cX11_line 74 = .ok (.ireturn, 1) := by decide +kernel
theorem dX11_holeAmong_0 : decode cX11_holeAmong 0 = .ok (.bipush 100, 2) := by decide +kernel
theorem dX11_holeAmong_2 : decode cX11_holeAmong 2 = .ok (.aload_n 0, 1) := by decide +kernel
theorem dX11_holeAmong_3 : decode cX11_holeAmong 3 = .ok (.getfield 33, 3) := by decide +kernel
theorem dX11_holeAmong_6 : decode cX11_holeAmong 6 = .ok (.getfield 115, 3) := by decide +kernel
theorem dX11_holeAmong_9 : decode cX11_holeAmong 9 = .ok (.bipush 6, 2) := by decide +kernel
theorem dX11_holeAmong_11 : decode cX11_holeAmong 11 = .ok (.iaload, 1) := by decide +kernel
theorem dX11_holeAmong_12 : decode cX11_holeAmong 12 = .ok (.isub, 1) := by decide +kernel
theorem dX11_holeAmong_13 : decode cX11_holeAmong 13 = .ok (.i2l, 1) := by decide +kernel
theorem dX11_holeAmong_14 : decode cX11_holeAmong 14 = .ok (.ldc2_w 339, 3) := by decide +kernel
theorem dX11_holeAmong_17 : decode cX11_holeAmong 17 = .ok (.lmul, 1) := by decide +kernel
theorem dX11_holeAmong_18 : decode cX11_holeAmong 18 = .ok (.lstore_n 3, 1) := by decide +kernel
theorem dX11_holeAmong_19 : decode cX11_holeAmong 19 = .ok (.lload_n 3, 1) := by decide +kernel
theorem dX11_holeAmong_20 : decode cX11_holeAmong 20 = .ok (.lload_n 3, 1) := by decide +kernel
theorem dX11_holeAmong_21 : decode cX11_holeAmong 21 = .ok (.lload_n 1, 1) := by decide +kernel
theorem dX11_holeAmong_22 : decode cX11_holeAmong 22 = .ok (.ladd, 1) := by decide +kernel
theorem dX11_holeAmong_23 : decode cX11_holeAmong 23 = .ok (.invokestatic 268, 3) := by decide +kernel
theorem dX11_holeAmong_26 : decode cX11_holeAmong 26 = .ok (.ireturn, 1) := by decide +kernel
theorem dX11_holds_0 : decode cX11_holds 0 = .ok (.aload_n 0, 1) := by decide +kernel
theorem dX11_holds_1 : decode cX11_holds 1 = .ok (.iload_n 1, 1) := by decide +kernel
theorem dX11_holds_2 : decode cX11_holds 2 = .ok (.invokevirtual 160, 3) := by decide +kernel
theorem dX11_holds_5 : decode cX11_holds 5 = .ok (.iload_n 2, 1) := by decide +kernel
theorem dX11_holds_6 : decode cX11_holds 6 = .ok (.iconst 0, 1) := by decide +kernel
theorem dX11_holds_7 : decode cX11_holds 7 = .ok (.bipush 60, 2) := by decide +kernel
theorem dX11_holds_9 : decode cX11_holds 9 = .ok (.invokestatic 78, 3) := by decide +kernel
theorem dX11_holds_12 : decode cX11_holds 12 = .ok (.ifCond .eq 22, 3) := by decide +kernel
theorem dX11_holds_15 : decode cX11_holds 15 = .ok (.iload_n 3, 1) := by decide +kernel
theorem dX11_holds_16 : decode cX11_holds 16 = .ok (.invokestatic 347, 3) := by decide +kernel
theorem dX11_holds_19 : decode cX11_holds 19 = .ok (.ifCond .eq 15, 3) := by decide +kernel
theorem dX11_holds_22 : decode cX11_holds 22 = .ok (.iload 4, 2) := by decide +kernel
theorem dX11_holds_24 : decode cX11_holds 24 = .ok (.invokestatic 347, 3) := by decide +kernel
theorem dX11_holds_27 : decode cX11_holds 27 = .ok (.ifCond .eq 7, 3) := by decide +kernel
theorem dX11_holds_30 : decode cX11_holds 30 = .ok (.iconst 1, 1) := by decide +kernel
theorem dX11_holds_31 : decode cX11_holds 31 = .ok (.goto 4, 3) := by decide +kernel
theorem dX11_holds_34 : decode cX11_holds 34 = .ok (.iconst 0, 1) := by decide +kernel
theorem dX11_holds_35 : decode cX11_holds 35 = .ok (.invokestatic 82, 3) := by decide +kernel
theorem dX11_holds_38 : decode cX11_holds 38 = .ok (.aload_n 0, 1) := by decide +kernel
theorem dX11_holds_39 : decode cX11_holds 39 = .ok (.getfield 33, 3) := by decide +kernel
theorem dX11_holds_42 : decode cX11_holds 42 = .ok (.iload_n 1, 1) := by decide +kernel
theorem dX11_holds_43 : decode cX11_holds 43 = .ok (.iload_n 2, 1) := by decide +kernel
theorem dX11_holds_44 : decode cX11_holds 44 = .ok (.iload_n 3, 1) := by decide +kernel
theorem dX11_holds_45 : decode cX11_holds 45 = .ok (.iload 4, 2) := by decide +kernel
theorem dX11_holds_47 : decode cX11_holds 47 = .ok (.invokevirtual 350, 3) := by decide +kernel
theorem dX11_holds_50 : decode cX11_holds 50 = .ok (.ireturn, 1) := by decide +kernel
theorem dX11_glue_0 : decode cX11_glue 0 = .ok (.aload_n 0, 1) := by decide +kernel
theorem dX11_glue_1 : decode cX11_glue 1 = .ok (.iload_n 1, 1) := by decide +kernel
theorem dX11_glue_2 : decode cX11_glue 2 = .ok (.invokevirtual 160, 3) := by decide +kernel
theorem dX11_glue_5 : decode cX11_glue 5 = .ok (.iload_n 2, 1) := by decide +kernel
theorem dX11_glue_6 : decode cX11_glue 6 = .ok (.invokestatic 347, 3) := by decide +kernel
theorem dX11_glue_9 : decode cX11_glue 9 = .ok (.ifCond .eq 22, 3) := by decide +kernel
theorem dX11_glue_12 : decode cX11_glue 12 = .ok (.iload_n 3, 1) := by decide +kernel
theorem dX11_glue_13 : decode cX11_glue 13 = .ok (.invokestatic 347, 3) := by decide +kernel
theorem dX11_glue_16 : decode cX11_glue 16 = .ok (.ifCond .eq 15, 3) := by decide +kernel
theorem dX11_glue_19 : decode cX11_glue 19 = .ok (.iload 4, 2) := by decide +kernel
theorem dX11_glue_21 : decode cX11_glue 21 = .ok (.invokestatic 347, 3) := by decide +kernel
theorem dX11_glue_24 : decode cX11_glue 24 = .ok (.ifCond .eq 7, 3) := by decide +kernel
theorem dX11_glue_27 : decode cX11_glue 27 = .ok (.iconst 1, 1) := by decide +kernel
theorem dX11_glue_28 : decode cX11_glue 28 = .ok (.goto 4, 3) := by decide +kernel
theorem dX11_glue_31 : decode cX11_glue 31 = .ok (.iconst 0, 1) := by decide +kernel
theorem dX11_glue_32 : decode cX11_glue 32 = .ok (.invokestatic 82, 3) := by decide +kernel
theorem dX11_glue_35 : decode cX11_glue 35 = .ok (.aload_n 0, 1) := by decide +kernel
theorem dX11_glue_36 : decode cX11_glue 36 = .ok (.getfield 33, 3) := by decide +kernel
theorem dX11_glue_39 : decode cX11_glue 39 = .ok (.iload_n 1, 1) := by decide +kernel
theorem dX11_glue_40 : decode cX11_glue 40 = .ok (.iload_n 2, 1) := by decide +kernel
theorem dX11_glue_41 : decode cX11_glue 41 = .ok (.iload_n 3, 1) := by decide +kernel
theorem dX11_glue_42 : decode cX11_glue 42 = .ok (.iload 4, 2) := by decide +kernel
theorem dX11_glue_44 : decode cX11_glue 44 = .ok (.invokevirtual 354, 3) := by decide +kernel
theorem dX11_glue_47 : decode cX11_glue 47 = .ok (.ireturn, 1) := by decide +kernel
theorem dX11_patch_0 : decode cX11_patch 0 = .ok (.aload_n 0, 1) := by decide +kernel
theorem dX11_patch_1 : decode cX11_patch 1 = .ok (.iload_n 1, 1) := by decide +kernel
theorem dX11_patch_2 : decode cX11_patch 2 = .ok (.invokevirtual 160, 3) := by decide +kernel
theorem dX11_patch_5 : decode cX11_patch 5 = .ok (.iload_n 2, 1) := by decide +kernel
theorem dX11_patch_6 : decode cX11_patch 6 = .ok (.iconst 0, 1) := by decide +kernel
theorem dX11_patch_7 : decode cX11_patch 7 = .ok (.bipush 60, 2) := by decide +kernel
theorem dX11_patch_9 : decode cX11_patch 9 = .ok (.invokestatic 78, 3) := by decide +kernel
theorem dX11_patch_12 : decode cX11_patch 12 = .ok (.ifCond .eq 22, 3) := by decide +kernel
theorem dX11_patch_15 : decode cX11_patch 15 = .ok (.iload_n 3, 1) := by decide +kernel
theorem dX11_patch_16 : decode cX11_patch 16 = .ok (.invokestatic 347, 3) := by decide +kernel
theorem dX11_patch_19 : decode cX11_patch 19 = .ok (.ifCond .eq 15, 3) := by decide +kernel
theorem dX11_patch_22 : decode cX11_patch 22 = .ok (.iload 4, 2) := by decide +kernel
theorem dX11_patch_24 : decode cX11_patch 24 = .ok (.invokestatic 347, 3) := by decide +kernel
theorem dX11_patch_27 : decode cX11_patch 27 = .ok (.ifCond .eq 7, 3) := by decide +kernel
theorem dX11_patch_30 : decode cX11_patch 30 = .ok (.iconst 1, 1) := by decide +kernel
theorem dX11_patch_31 : decode cX11_patch 31 = .ok (.goto 4, 3) := by decide +kernel
theorem dX11_patch_34 : decode cX11_patch 34 = .ok (.iconst 0, 1) := by decide +kernel
theorem dX11_patch_35 : decode cX11_patch 35 = .ok (.invokestatic 82, 3) := by decide +kernel
theorem dX11_patch_38 : decode cX11_patch 38 = .ok (.iload 5, 2) := by decide +kernel
theorem dX11_patch_40 : decode cX11_patch 40 = .ok (.invokestatic 333, 3) := by decide +kernel
theorem dX11_patch_43 : decode cX11_patch 43 = .ok (.invokestatic 336, 3) := by decide +kernel
theorem dX11_patch_46 : decode cX11_patch 46 = .ok (.aload_n 0, 1) := by decide +kernel
theorem dX11_patch_47 : decode cX11_patch 47 = .ok (.getfield 33, 3) := by decide +kernel
theorem dX11_patch_50 : decode cX11_patch 50 = .ok (.iload_n 1, 1) := by decide +kernel
theorem dX11_patch_51 : decode cX11_patch 51 = .ok (.iload_n 2, 1) := by decide +kernel
theorem dX11_patch_52 : decode cX11_patch 52 = .ok (.iload_n 3, 1) := by decide +kernel
theorem dX11_patch_53 : decode cX11_patch 53 = .ok (.iload 4, 2) := by decide +kernel
theorem dX11_patch_55 : decode cX11_patch 55 = .ok (.invokevirtual 350, 3) := by decide +kernel
theorem dX11_patch_58 : decode cX11_patch 58 = .ok (.if_icmp .ge 7, 3) := by decide +kernel
theorem dX11_patch_61 : decode cX11_patch 61 = .ok (.iconst 1, 1) := by decide +kernel
theorem dX11_patch_62 : decode cX11_patch 62 = .ok (.goto 4, 3) := by decide +kernel
theorem dX11_patch_65 : decode cX11_patch 65 = .ok (.iconst 0, 1) := by decide +kernel
theorem dX11_patch_66 : decode cX11_patch 66 = .ok (.istore 6, 2) := by decide +kernel
theorem dX11_patch_68 : decode cX11_patch 68 = .ok (.iconst 1, 1) := by decide +kernel
theorem dX11_patch_69 : decode cX11_patch 69 = .ok (.iload_n 1, 1) := by decide +kernel
theorem dX11_patch_70 : decode cX11_patch 70 = .ok (.ishl, 1) := by decide +kernel
theorem dX11_patch_71 : decode cX11_patch 71 = .ok (.istore 7, 2) := by decide +kernel
theorem dX11_patch_73 : decode cX11_patch 73 = .ok (.aload_n 0, 1) := by decide +kernel
theorem dX11_patch_74 : decode cX11_patch 74 = .ok (.aload_n 0, 1) := by decide +kernel
theorem dX11_patch_75 : decode cX11_patch 75 = .ok (.getfield 63, 3) := by decide +kernel
theorem dX11_patch_78 : decode cX11_patch 78 = .ok (.getfield 144, 3) := by decide +kernel
theorem dX11_patch_81 : decode cX11_patch 81 = .ok (.aload_n 0, 1) := by decide +kernel
theorem dX11_patch_82 : decode cX11_patch 82 = .ok (.getfield 63, 3) := by decide +kernel
theorem dX11_patch_85 : decode cX11_patch 85 = .ok (.getfield 147, 3) := by decide +kernel
theorem dX11_patch_88 : decode cX11_patch 88 = .ok (.iload 6, 2) := by decide +kernel
theorem dX11_patch_90 : decode cX11_patch 90 = .ok (.ifCond .eq 16, 3) := by decide +kernel
theorem dX11_patch_93 : decode cX11_patch 93 = .ok (.aload_n 0, 1) := by decide +kernel
theorem dX11_patch_94 : decode cX11_patch 94 = .ok (.getfield 63, 3) := by decide +kernel
theorem dX11_patch_97 : decode cX11_patch 97 = .ok (.getfield 176, 3) := by decide +kernel
theorem dX11_patch_100 : decode cX11_patch 100 = .ok (.iload 7, 2) := by decide +kernel
theorem dX11_patch_102 : decode cX11_patch 102 = .ok (.ior, 1) := by decide +kernel
theorem dX11_patch_103 : decode cX11_patch 103 = .ok (.goto 15, 3) := by decide +kernel
theorem dX11_patch_106 : decode cX11_patch 106 = .ok (.aload_n 0, 1) := by decide +kernel
theorem dX11_patch_107 : decode cX11_patch 107 = .ok (.getfield 63, 3) := by decide +kernel
theorem dX11_patch_110 : decode cX11_patch 110 = .ok (.getfield 176, 3) := by decide +kernel
theorem dX11_patch_113 : decode cX11_patch 113 = .ok (.iload 7, 2) := by decide +kernel
theorem dX11_patch_115 : decode cX11_patch 115 = .ok (.iconst (-1), 1) := by decide +kernel
theorem dX11_patch_116 : decode cX11_patch 116 = .ok (.ixor, 1) := by decide +kernel
theorem dX11_patch_117 : decode cX11_patch 117 = .ok (.iand, 1) := by decide +kernel
theorem dX11_patch_118 : decode cX11_patch 118 = .ok (.aload_n 0, 1) := by decide +kernel
theorem dX11_patch_119 : decode cX11_patch 119 = .ok (.getfield 63, 3) := by decide +kernel
theorem dX11_patch_122 : decode cX11_patch 122 = .ok (.getfield 193, 3) := by decide +kernel
theorem dX11_patch_125 : decode cX11_patch 125 = .ok (.invokevirtual 197, 3) := by decide +kernel
theorem dX11_patch_128 : decode cX11_patch 128 = .ok (.iload 6, 2) := by decide +kernel
theorem dX11_patch_130 : decode cX11_patch 130 = .ok (.ireturn, 1) := by decide +kernel
theorem dX11_feel_0 : decode cX11_feel 0 = .ok (.aload_n 0, 1) := by decide +kernel
theorem dX11_feel_1 : decode cX11_feel 1 = .ok (.iload_n 1, 1) := by decide +kernel
theorem dX11_feel_2 : decode cX11_feel 2 = .ok (.invokevirtual 220, 3) := by decide +kernel
theorem dX11_feel_5 : decode cX11_feel 5 = .ok (.invokestatic 214, 3) := by decide +kernel
theorem dX11_feel_8 : decode cX11_feel 8 = .ok (.aload_n 0, 1) := by decide +kernel
theorem dX11_feel_9 : decode cX11_feel 9 = .ok (.getfield 33, 3) := by decide +kernel
theorem dX11_feel_12 : decode cX11_feel 12 = .ok (.aload_n 0, 1) := by decide +kernel
theorem dX11_feel_13 : decode cX11_feel 13 = .ok (.getfield 33, 3) := by decide +kernel
theorem dX11_feel_16 : decode cX11_feel 16 = .ok (.invokevirtual 254, 3) := by decide +kernel
theorem dX11_feel_19 : decode cX11_feel 19 = .ok (.iload_n 1, 1) := by decide +kernel
theorem dX11_feel_20 : decode cX11_feel 20 = .ok (.iadd, 1) := by decide +kernel
theorem dX11_feel_21 : decode cX11_feel 21 = .ok (.invokevirtual 231, 3) := by decide +kernel
theorem dX11_feel_24 : decode cX11_feel 24 = .ok (.istore_n 2, 1) := by decide +kernel
theorem dX11_feel_25 : decode cX11_feel 25 = .ok (.aload_n 0, 1) := by decide +kernel
theorem dX11_feel_26 : decode cX11_feel 26 = .ok (.getfield 33, 3) := by decide +kernel
theorem dX11_feel_29 : decode cX11_feel 29 = .ok (.aload_n 0, 1) := by decide +kernel
theorem dX11_feel_30 : decode cX11_feel 30 = .ok (.getfield 33, 3) := by decide +kernel
theorem dX11_feel_33 : decode cX11_feel 33 = .ok (.invokevirtual 254, 3) := by decide +kernel
theorem dX11_feel_36 : decode cX11_feel 36 = .ok (.iload_n 1, 1) := by decide +kernel
theorem dX11_feel_37 : decode cX11_feel 37 = .ok (.isub, 1) := by decide +kernel
theorem dX11_feel_38 : decode cX11_feel 38 = .ok (.invokevirtual 231, 3) := by decide +kernel
theorem dX11_feel_41 : decode cX11_feel 41 = .ok (.istore_n 3, 1) := by decide +kernel
theorem dX11_feel_42 : decode cX11_feel 42 = .ok (.bipush 100, 2) := by decide +kernel
theorem dX11_feel_44 : decode cX11_feel 44 = .ok (.iload_n 2, 1) := by decide +kernel
theorem dX11_feel_45 : decode cX11_feel 45 = .ok (.iload_n 3, 1) := by decide +kernel
theorem dX11_feel_46 : decode cX11_feel 46 = .ok (.invokestatic 357, 3) := by decide +kernel
theorem dX11_feel_49 : decode cX11_feel 49 = .ok (.imul, 1) := by decide +kernel
theorem dX11_feel_50 : decode cX11_feel 50 = .ok (.iload_n 2, 1) := by decide +kernel
theorem dX11_feel_51 : decode cX11_feel 51 = .ok (.iload_n 3, 1) := by decide +kernel
theorem dX11_feel_52 : decode cX11_feel 52 = .ok (.invokestatic 314, 3) := by decide +kernel
theorem dX11_feel_55 : decode cX11_feel 55 = .ok (.iadd, 1) := by decide +kernel
theorem dX11_feel_56 : decode cX11_feel 56 = .ok (.ireturn, 1) := by decide +kernel
theorem dX11_fits_0 : decode cX11_fits 0 = .ok (.aload_n 0, 1) := by decide +kernel
theorem dX11_fits_1 : decode cX11_fits 1 = .ok (.iload_n 1, 1) := by decide +kernel
theorem dX11_fits_2 : decode cX11_fits 2 = .ok (.invokevirtual 220, 3) := by decide +kernel
theorem dX11_fits_5 : decode cX11_fits 5 = .ok (.invokestatic 214, 3) := by decide +kernel
theorem dX11_fits_8 : decode cX11_fits 8 = .ok (.iconst 0, 1) := by decide +kernel
theorem dX11_fits_9 : decode cX11_fits 9 = .ok (.istore_n 2, 1) := by decide +kernel
theorem dX11_fits_10 : decode cX11_fits 10 = .ok (.iconst 0, 1) := by decide +kernel
theorem dX11_fits_11 : decode cX11_fits 11 = .ok (.istore_n 3, 1) := by decide +kernel
theorem dX11_fits_12 : decode cX11_fits 12 = .ok (.iload_n 3, 1) := by decide +kernel
theorem dX11_fits_13 : decode cX11_fits 13 = .ok (.aload_n 0, 1) := by decide +kernel
theorem dX11_fits_14 : decode cX11_fits 14 = .ok (.getfield 33, 3) := by decide +kernel
theorem dX11_fits_17 : decode cX11_fits 17 = .ok (.getfield 121, 3) := by decide +kernel
theorem dX11_fits_20 : decode cX11_fits 20 = .ok (.getfield 125, 3) := by decide +kernel
theorem dX11_fits_23 : decode cX11_fits 23 = .ok (.if_icmp .ge 71, 3) := by decide +kernel
theorem dX11_fits_26 : decode cX11_fits 26 = .ok (.aload_n 0, 1) := by decide +kernel
theorem dX11_fits_27 : decode cX11_fits 27 = .ok (.getfield 33, 3) := by decide +kernel
theorem dX11_fits_30 : decode cX11_fits 30 = .ok (.getfield 121, 3) := by decide +kernel
theorem dX11_fits_33 : decode cX11_fits 33 = .ok (.getfield 163, 3) := by decide +kernel
theorem dX11_fits_36 : decode cX11_fits 36 = .ok (.iload_n 3, 1) := by decide +kernel
theorem dX11_fits_37 : decode cX11_fits 37 = .ok (.iaload, 1) := by decide +kernel
theorem dX11_fits_38 : decode cX11_fits 38 = .ok (.istore 4, 2) := by decide +kernel
theorem dX11_fits_40 : decode cX11_fits 40 = .ok (.aload_n 0, 1) := by decide +kernel
theorem dX11_fits_41 : decode cX11_fits 41 = .ok (.getfield 33, 3) := by decide +kernel
theorem dX11_fits_44 : decode cX11_fits 44 = .ok (.aload_n 0, 1) := by decide +kernel
theorem dX11_fits_45 : decode cX11_fits 45 = .ok (.getfield 33, 3) := by decide +kernel
theorem dX11_fits_48 : decode cX11_fits 48 = .ok (.invokevirtual 254, 3) := by decide +kernel
theorem dX11_fits_51 : decode cX11_fits 51 = .ok (.iload 4, 2) := by decide +kernel
theorem dX11_fits_53 : decode cX11_fits 53 = .ok (.iadd, 1) := by decide +kernel
theorem dX11_fits_54 : decode cX11_fits 54 = .ok (.invokevirtual 231, 3) := by decide +kernel
theorem dX11_fits_57 : decode cX11_fits 57 = .ok (.iload_n 1, 1) := by decide +kernel
theorem dX11_fits_58 : decode cX11_fits 58 = .ok (.if_icmp .eq 24, 3) := by decide +kernel
theorem dX11_fits_61 : decode cX11_fits 61 = .ok (.aload_n 0, 1) := by decide +kernel
theorem dX11_fits_62 : decode cX11_fits 62 = .ok (.getfield 33, 3) := by decide +kernel
theorem dX11_fits_65 : decode cX11_fits 65 = .ok (.aload_n 0, 1) := by decide +kernel
theorem dX11_fits_66 : decode cX11_fits 66 = .ok (.getfield 33, 3) := by decide +kernel
theorem dX11_fits_69 : decode cX11_fits 69 = .ok (.invokevirtual 254, 3) := by decide +kernel
theorem dX11_fits_72 : decode cX11_fits 72 = .ok (.iload 4, 2) := by decide +kernel
theorem dX11_fits_74 : decode cX11_fits 74 = .ok (.isub, 1) := by decide +kernel
theorem dX11_fits_75 : decode cX11_fits 75 = .ok (.invokevirtual 231, 3) := by decide +kernel
theorem dX11_fits_78 : decode cX11_fits 78 = .ok (.iload_n 1, 1) := by decide +kernel
theorem dX11_fits_79 : decode cX11_fits 79 = .ok (.if_icmp .ne 9, 3) := by decide +kernel
theorem dX11_fits_82 : decode cX11_fits 82 = .ok (.iload_n 2, 1) := by decide +kernel
theorem dX11_fits_83 : decode cX11_fits 83 = .ok (.iconst 1, 1) := by decide +kernel
theorem dX11_fits_84 : decode cX11_fits 84 = .ok (.iload_n 3, 1) := by decide +kernel
theorem dX11_fits_85 : decode cX11_fits 85 = .ok (.ishl, 1) := by decide +kernel
theorem dX11_fits_86 : decode cX11_fits 86 = .ok (.ior, 1) := by decide +kernel
theorem dX11_fits_87 : decode cX11_fits 87 = .ok (.istore_n 2, 1) := by decide +kernel
theorem dX11_fits_88 : decode cX11_fits 88 = .ok (.iinc 3 1, 3) := by decide +kernel
theorem dX11_fits_91 : decode cX11_fits 91 = .ok (.goto (-79), 3) := by decide +kernel
theorem dX11_fits_94 : decode cX11_fits 94 = .ok (.iload_n 2, 1) := by decide +kernel
theorem dX11_fits_95 : decode cX11_fits 95 = .ok (.ireturn, 1) := by decide +kernel
theorem dX11_cause_0 : decode cX11_cause 0 = .ok (.aload_n 0, 1) := by decide +kernel
theorem dX11_cause_1 : decode cX11_cause 1 = .ok (.iload_n 1, 1) := by decide +kernel
theorem dX11_cause_2 : decode cX11_cause 2 = .ok (.invokevirtual 160, 3) := by decide +kernel
theorem dX11_cause_5 : decode cX11_cause 5 = .ok (.iload_n 2, 1) := by decide +kernel
theorem dX11_cause_6 : decode cX11_cause 6 = .ok (.iconst (-1), 1) := by decide +kernel
theorem dX11_cause_7 : decode cX11_cause 7 = .ok (.iconst 3, 1) := by decide +kernel
theorem dX11_cause_8 : decode cX11_cause 8 = .ok (.invokestatic 78, 3) := by decide +kernel
theorem dX11_cause_11 : decode cX11_cause 11 = .ok (.invokestatic 214, 3) := by decide +kernel
theorem dX11_cause_14 : decode cX11_cause 14 = .ok (.lconst 0, 1) := by decide +kernel
theorem dX11_cause_15 : decode cX11_cause 15 = .ok (.lstore_n 3, 1) := by decide +kernel
theorem dX11_cause_16 : decode cX11_cause 16 = .ok (.lconst 0, 1) := by decide +kernel
theorem dX11_cause_17 : decode cX11_cause 17 = .ok (.lstore 5, 2) := by decide +kernel
theorem dX11_cause_19 : decode cX11_cause 19 = .ok (.iconst (-1), 1) := by decide +kernel
theorem dX11_cause_20 : decode cX11_cause 20 = .ok (.istore 7, 2) := by decide +kernel
theorem dX11_cause_22 : decode cX11_cause 22 = .ok (.iconst 0, 1) := by decide +kernel
theorem dX11_cause_23 : decode cX11_cause 23 = .ok (.istore 8, 2) := by decide +kernel
theorem dX11_cause_25 : decode cX11_cause 25 = .ok (.iload 8, 2) := by decide +kernel
theorem dX11_cause_27 : decode cX11_cause 27 = .ok (.iconst 4, 1) := by decide +kernel
theorem dX11_cause_28 : decode cX11_cause 28 = .ok (.if_icmp .ge 42, 3) := by decide +kernel
theorem dX11_cause_31 : decode cX11_cause 31 = .ok (.aload_n 0, 1) := by decide +kernel
theorem dX11_cause_32 : decode cX11_cause 32 = .ok (.getfield 33, 3) := by decide +kernel
theorem dX11_cause_35 : decode cX11_cause 35 = .ok (.iload_n 1, 1) := by decide +kernel
theorem dX11_cause_36 : decode cX11_cause 36 = .ok (.iload 8, 2) := by decide +kernel
theorem dX11_cause_38 : decode cX11_cause 38 = .ok (.invokevirtual 360, 3) := by decide +kernel
theorem dX11_cause_41 : decode cX11_cause 41 = .ok (.lstore 9, 2) := by decide +kernel
theorem dX11_cause_43 : decode cX11_cause 43 = .ok (.lload_n 3, 1) := by decide +kernel
theorem dX11_cause_44 : decode cX11_cause 44 = .ok (.lload 9, 2) := by decide +kernel
theorem dX11_cause_46 : decode cX11_cause 46 = .ok (.ladd, 1) := by decide +kernel
theorem dX11_cause_47 : decode cX11_cause 47 = .ok (.lstore_n 3, 1) := by decide +kernel
theorem dX11_cause_48 : decode cX11_cause 48 = .ok (.lload 9, 2) := by decide +kernel
theorem dX11_cause_50 : decode cX11_cause 50 = .ok (.lload 5, 2) := by decide +kernel
theorem dX11_cause_52 : decode cX11_cause 52 = .ok (.lcmp, 1) := by decide +kernel
theorem dX11_cause_53 : decode cX11_cause 53 = .ok (.ifCond .le 11, 3) := by decide +kernel
theorem dX11_cause_56 : decode cX11_cause 56 = .ok (.lload 9, 2) := by decide +kernel
theorem dX11_cause_58 : decode cX11_cause 58 = .ok (.lstore 5, 2) := by decide +kernel
theorem dX11_cause_60 : decode cX11_cause 60 = .ok (.iload 8, 2) := by decide +kernel
theorem dX11_cause_62 : decode cX11_cause 62 = .ok (.istore 7, 2) := by decide +kernel
theorem dX11_cause_64 : decode cX11_cause 64 = .ok (.iinc 8 1, 3) := by decide +kernel
theorem dX11_cause_67 : decode cX11_cause 67 = .ok (.goto (-42), 3) := by decide +kernel
theorem dX11_cause_70 : decode cX11_cause 70 = .ok (.iload_n 2, 1) := by decide +kernel
theorem dX11_cause_71 : decode cX11_cause 71 = .ok (.iconst (-1), 1) := by decide +kernel
theorem dX11_cause_72 : decode cX11_cause 72 = .ok (.if_icmp .ne 8, 3) := by decide +kernel
theorem dX11_cause_75 : decode cX11_cause 75 = .ok (.iload 7, 2) := by decide +kernel
theorem dX11_cause_77 : decode cX11_cause 77 = .ok (.goto 16, 3) := by decide +kernel
theorem dX11_cause_80 : decode cX11_cause 80 = .ok (.aload_n 0, 1) := by decide +kernel
theorem dX11_cause_81 : decode cX11_cause 81 = .ok (.getfield 33, 3) := by decide +kernel
theorem dX11_cause_84 : decode cX11_cause 84 = .ok (.iload_n 1, 1) := by decide +kernel
theorem dX11_cause_85 : decode cX11_cause 85 = .ok (.iload_n 2, 1) := by decide +kernel
theorem dX11_cause_86 : decode cX11_cause 86 = .ok (.invokevirtual 360, 3) := by decide +kernel
theorem dX11_cause_89 : decode cX11_cause 89 = .ok (.lload_n 3, 1) := by decide +kernel
theorem dX11_cause_90 : decode cX11_cause 90 = .ok (.invokestatic 268, 3) := by decide +kernel
theorem dX11_cause_93 : decode cX11_cause 93 = .ok (.ireturn, 1) := by decide +kernel
theorem dX11_ride_0 : decode cX11_ride 0 = .ok (.iload_n 2, 1) := by decide +kernel
theorem dX11_ride_1 : decode cX11_ride 1 = .ok (.iconst 0, 1) := by decide +kernel
theorem dX11_ride_2 : decode cX11_ride 2 = .ok (.iconst 1, 1) := by decide +kernel
theorem dX11_ride_3 : decode cX11_ride 3 = .ok (.invokestatic 78, 3) := by decide +kernel
theorem dX11_ride_6 : decode cX11_ride 6 = .ok (.invokestatic 214, 3) := by decide +kernel
theorem dX11_ride_9 : decode cX11_ride 9 = .ok (.iload_n 1, 1) := by decide +kernel
theorem dX11_ride_10 : decode cX11_ride 10 = .ok (.iconst 0, 1) := by decide +kernel
theorem dX11_ride_11 : decode cX11_ride 11 = .ok (.bipush 60, 2) := by decide +kernel
theorem dX11_ride_13 : decode cX11_ride 13 = .ok (.invokestatic 78, 3) := by decide +kernel
theorem dX11_ride_16 : decode cX11_ride 16 = .ok (.invokestatic 82, 3) := by decide +kernel
theorem dX11_ride_19 : decode cX11_ride 19 = .ok (.aload_n 0, 1) := by decide +kernel
theorem dX11_ride_20 : decode cX11_ride 20 = .ok (.iload_n 1, 1) := by decide +kernel
theorem dX11_ride_21 : decode cX11_ride 21 = .ok (.invokevirtual 364, 3) := by decide +kernel
theorem dX11_ride_24 : decode cX11_ride 24 = .ok (.istore_n 3, 1) := by decide +kernel
theorem dX11_ride_25 : decode cX11_ride 25 = .ok (.iload_n 2, 1) := by decide +kernel
theorem dX11_ride_26 : decode cX11_ride 26 = .ok (.ifCond .eq 8, 3) := by decide +kernel
theorem dX11_ride_29 : decode cX11_ride 29 = .ok (.iload_n 3, 1) := by decide +kernel
theorem dX11_ride_30 : decode cX11_ride 30 = .ok (.iconst (-1), 1) := by decide +kernel
theorem dX11_ride_31 : decode cX11_ride 31 = .ok (.if_icmp .ne 7, 3) := by decide +kernel
theorem dX11_ride_34 : decode cX11_ride 34 = .ok (.iload_n 3, 1) := by decide +kernel
theorem dX11_ride_35 : decode cX11_ride 35 = .ok (.goto 8, 3) := by decide +kernel
theorem dX11_ride_38 : decode cX11_ride 38 = .ok (.iload_n 1, 1) := by decide +kernel
theorem dX11_ride_39 : decode cX11_ride 39 = .ok (.iload_n 3, 1) := by decide +kernel
theorem dX11_ride_40 : decode cX11_ride 40 = .ok (.invokestatic 367, 3) := by decide +kernel
theorem dX11_ride_43 : decode cX11_ride 43 = .ok (.ireturn, 1) := by decide +kernel
theorem dX11_best_0 : decode cX11_best 0 = .ok (.iload 5, 2) := by decide +kernel
theorem dX11_best_2 : decode cX11_best 2 = .ok (.iconst 0, 1) := by decide +kernel
theorem dX11_best_3 : decode cX11_best 3 = .ok (.iconst 1, 1) := by decide +kernel
theorem dX11_best_4 : decode cX11_best 4 = .ok (.invokestatic 78, 3) := by decide +kernel
theorem dX11_best_7 : decode cX11_best 7 = .ok (.invokestatic 214, 3) := by decide +kernel
theorem dX11_best_10 : decode cX11_best 10 = .ok (.iload_n 1, 1) := by decide +kernel
theorem dX11_best_11 : decode cX11_best 11 = .ok (.iconst 0, 1) := by decide +kernel
theorem dX11_best_12 : decode cX11_best 12 = .ok (.bipush 60, 2) := by decide +kernel
theorem dX11_best_14 : decode cX11_best 14 = .ok (.invokestatic 78, 3) := by decide +kernel
theorem dX11_best_17 : decode cX11_best 17 = .ok (.ifCond .eq 29, 3) := by decide +kernel
theorem dX11_best_20 : decode cX11_best 20 = .ok (.iload_n 2, 1) := by decide +kernel
theorem dX11_best_21 : decode cX11_best 21 = .ok (.invokestatic 347, 3) := by decide +kernel
theorem dX11_best_24 : decode cX11_best 24 = .ok (.ifCond .eq 22, 3) := by decide +kernel
theorem dX11_best_27 : decode cX11_best 27 = .ok (.iload_n 3, 1) := by decide +kernel
theorem dX11_best_28 : decode cX11_best 28 = .ok (.invokestatic 347, 3) := by decide +kernel
theorem dX11_best_31 : decode cX11_best 31 = .ok (.ifCond .eq 15, 3) := by decide +kernel
theorem dX11_best_34 : decode cX11_best 34 = .ok (.iload 4, 2) := by decide +kernel
theorem dX11_best_36 : decode cX11_best 36 = .ok (.invokestatic 347, 3) := by decide +kernel
theorem dX11_best_39 : decode cX11_best 39 = .ok (.ifCond .eq 7, 3) := by decide +kernel
theorem dX11_best_42 : decode cX11_best 42 = .ok (.iconst 1, 1) := by decide +kernel
theorem dX11_best_43 : decode cX11_best 43 = .ok (.goto 4, 3) := by decide +kernel
theorem dX11_best_46 : decode cX11_best 46 = .ok (.iconst 0, 1) := by decide +kernel
theorem dX11_best_47 : decode cX11_best 47 = .ok (.invokestatic 82, 3) := by decide +kernel
theorem dX11_best_50 : decode cX11_best 50 = .ok (.iconst 2, 1) := by decide +kernel
theorem dX11_best_51 : decode cX11_best 51 = .ok (.istore 6, 2) := by decide +kernel
theorem dX11_best_53 : decode cX11_best 53 = .ok (.bipush 20, 2) := by decide +kernel
theorem dX11_best_55 : decode cX11_best 55 = .ok (.iload_n 1, 1) := by decide +kernel
theorem dX11_best_56 : decode cX11_best 56 = .ok (.imul, 1) := by decide +kernel
theorem dX11_best_57 : decode cX11_best 57 = .ok (.istore 7, 2) := by decide +kernel
theorem dX11_best_59 : decode cX11_best 59 = .ok (.aload_n 0, 1) := by decide +kernel
theorem dX11_best_60 : decode cX11_best 60 = .ok (.iload_n 1, 1) := by decide +kernel
theorem dX11_best_61 : decode cX11_best 61 = .ok (.invokevirtual 364, 3) := by decide +kernel
theorem dX11_best_64 : decode cX11_best 64 = .ok (.istore 8, 2) := by decide +kernel
theorem dX11_best_66 : decode cX11_best 66 = .ok (.iload 8, 2) := by decide +kernel
theorem dX11_best_68 : decode cX11_best 68 = .ok (.iconst (-1), 1) := by decide +kernel
theorem dX11_best_69 : decode cX11_best 69 = .ok (.if_icmp .eq 25, 3) := by decide +kernel
theorem dX11_best_72 : decode cX11_best 72 = .ok (.iload_n 1, 1) := by decide +kernel
theorem dX11_best_73 : decode cX11_best 73 = .ok (.iload 8, 2) := by decide +kernel
theorem dX11_best_75 : decode cX11_best 75 = .ok (.invokestatic 367, 3) := by decide +kernel
theorem dX11_best_78 : decode cX11_best 78 = .ok (.iload 7, 2) := by decide +kernel
theorem dX11_best_80 : decode cX11_best 80 = .ok (.if_icmp .gt 14, 3) := by decide +kernel
theorem dX11_best_83 : decode cX11_best 83 = .ok (.iconst 1, 1) := by decide +kernel
theorem dX11_best_84 : decode cX11_best 84 = .ok (.istore 6, 2) := by decide +kernel
theorem dX11_best_86 : decode cX11_best 86 = .ok (.iload_n 1, 1) := by decide +kernel
theorem dX11_best_87 : decode cX11_best 87 = .ok (.iload 8, 2) := by decide +kernel
theorem dX11_best_89 : decode cX11_best 89 = .ok (.invokestatic 367, 3) := by decide +kernel
theorem dX11_best_92 : decode cX11_best 92 = .ok (.istore 7, 2) := by decide +kernel
theorem dX11_best_94 : decode cX11_best 94 = .ok (.aload_n 0, 1) := by decide +kernel
theorem dX11_best_95 : decode cX11_best 95 = .ok (.getfield 33, 3) := by decide +kernel
theorem dX11_best_98 : decode cX11_best 98 = .ok (.aload_n 0, 1) := by decide +kernel
theorem dX11_best_99 : decode cX11_best 99 = .ok (.iconst 1, 1) := by decide +kernel
theorem dX11_best_100 : decode cX11_best 100 = .ok (.invokevirtual 181, 3) := by decide +kernel
theorem dX11_best_103 : decode cX11_best 103 = .ok (.iload_n 2, 1) := by decide +kernel
theorem dX11_best_104 : decode cX11_best 104 = .ok (.iload_n 3, 1) := by decide +kernel
theorem dX11_best_105 : decode cX11_best 105 = .ok (.iload 4, 2) := by decide +kernel
theorem dX11_best_107 : decode cX11_best 107 = .ok (.invokevirtual 370, 3) := by decide +kernel
theorem dX11_best_110 : decode cX11_best 110 = .ok (.istore 9, 2) := by decide +kernel
theorem dX11_best_112 : decode cX11_best 112 = .ok (.iload 9, 2) := by decide +kernel
theorem dX11_best_114 : decode cX11_best 114 = .ok (.bipush 15, 2) := by decide +kernel
theorem dX11_best_116 : decode cX11_best 116 = .ok (.iadd, 1) := by decide +kernel
theorem dX11_best_117 : decode cX11_best 117 = .ok (.bipush 6, 2) := by decide +kernel
theorem dX11_best_119 : decode cX11_best 119 = .ok (.iload_n 1, 1) := by decide +kernel
theorem dX11_best_120 : decode cX11_best 120 = .ok (.imul, 1) := by decide +kernel
theorem dX11_best_121 : decode cX11_best 121 = .ok (.iadd, 1) := by decide +kernel
theorem dX11_best_122 : decode cX11_best 122 = .ok (.istore 10, 2) := by decide +kernel
theorem dX11_best_124 : decode cX11_best 124 = .ok (.iload 9, 2) := by decide +kernel
theorem dX11_best_126 : decode cX11_best 126 = .ok (.iconst (-1), 1) := by decide +kernel
theorem dX11_best_127 : decode cX11_best 127 = .ok (.if_icmp .eq 17, 3) := by decide +kernel
theorem dX11_best_130 : decode cX11_best 130 = .ok (.iload 10, 2) := by decide +kernel
theorem dX11_best_132 : decode cX11_best 132 = .ok (.iload 7, 2) := by decide +kernel
theorem dX11_best_134 : decode cX11_best 134 = .ok (.if_icmp .gt 10, 3) := by decide +kernel
theorem dX11_best_137 : decode cX11_best 137 = .ok (.iconst 0, 1) := by decide +kernel
theorem dX11_best_138 : decode cX11_best 138 = .ok (.istore 6, 2) := by decide +kernel
theorem dX11_best_140 : decode cX11_best 140 = .ok (.iload 10, 2) := by decide +kernel
theorem dX11_best_142 : decode cX11_best 142 = .ok (.istore 7, 2) := by decide +kernel
theorem dX11_best_144 : decode cX11_best 144 = .ok (.iload 5, 2) := by decide +kernel
theorem dX11_best_146 : decode cX11_best 146 = .ok (.ifCond .ne 8, 3) := by decide +kernel
theorem dX11_best_149 : decode cX11_best 149 = .ok (.iload 6, 2) := by decide +kernel
theorem dX11_best_151 : decode cX11_best 151 = .ok (.goto 5, 3) := by decide +kernel
theorem dX11_best_154 : decode cX11_best 154 = .ok (.iload 7, 2) := by decide +kernel
theorem dX11_best_156 : decode cX11_best 156 = .ok (.ireturn, 1) := by decide +kernel
theorem dX11_rides_0 : decode cX11_rides 0 = .ok (.iload_n 1, 1) := by decide +kernel
theorem dX11_rides_1 : decode cX11_rides 1 = .ok (.iconst 1, 1) := by decide +kernel
theorem dX11_rides_2 : decode cX11_rides 2 = .ok (.bipush 60, 2) := by decide +kernel
theorem dX11_rides_4 : decode cX11_rides 4 = .ok (.invokestatic 78, 3) := by decide +kernel
theorem dX11_rides_7 : decode cX11_rides 7 = .ok (.invokestatic 82, 3) := by decide +kernel
theorem dX11_rides_10 : decode cX11_rides 10 = .ok (.aload_n 0, 1) := by decide +kernel
theorem dX11_rides_11 : decode cX11_rides 11 = .ok (.iconst 1, 1) := by decide +kernel
theorem dX11_rides_12 : decode cX11_rides 12 = .ok (.invokevirtual 181, 3) := by decide +kernel
theorem dX11_rides_15 : decode cX11_rides 15 = .ok (.istore_n 2, 1) := by decide +kernel
theorem dX11_rides_16 : decode cX11_rides 16 = .ok (.bipush 6, 2) := by decide +kernel
theorem dX11_rides_18 : decode cX11_rides 18 = .ok (.iload_n 1, 1) := by decide +kernel
theorem dX11_rides_19 : decode cX11_rides 19 = .ok (.imul, 1) := by decide +kernel
theorem dX11_rides_20 : decode cX11_rides 20 = .ok (.istore_n 3, 1) := by decide +kernel
theorem dX11_rides_21 : decode cX11_rides 21 = .ok (.iconst 0, 1) := by decide +kernel
theorem dX11_rides_22 : decode cX11_rides 22 = .ok (.istore 4, 2) := by decide +kernel
theorem dX11_rides_24 : decode cX11_rides 24 = .ok (.iload 4, 2) := by decide +kernel
theorem dX11_rides_26 : decode cX11_rides 26 = .ok (.bipush 100, 2) := by decide +kernel
theorem dX11_rides_28 : decode cX11_rides 28 = .ok (.if_icmp .ge 50, 3) := by decide +kernel
theorem dX11_rides_31 : decode cX11_rides 31 = .ok (.aload_n 0, 1) := by decide +kernel
theorem dX11_rides_32 : decode cX11_rides 32 = .ok (.getfield 33, 3) := by decide +kernel
theorem dX11_rides_35 : decode cX11_rides 35 = .ok (.iload_n 2, 1) := by decide +kernel
theorem dX11_rides_36 : decode cX11_rides 36 = .ok (.iload_n 3, 1) := by decide +kernel
theorem dX11_rides_37 : decode cX11_rides 37 = .ok (.aload_n 0, 1) := by decide +kernel
theorem dX11_rides_38 : decode cX11_rides 38 = .ok (.getfield 63, 3) := by decide +kernel
theorem dX11_rides_41 : decode cX11_rides 41 = .ok (.getfield 147, 3) := by decide +kernel
theorem dX11_rides_44 : decode cX11_rides 44 = .ok (.iload 4, 2) := by decide +kernel
theorem dX11_rides_46 : decode cX11_rides 46 = .ok (.iload_n 3, 1) := by decide +kernel
theorem dX11_rides_47 : decode cX11_rides 47 = .ok (.imul, 1) := by decide +kernel
theorem dX11_rides_48 : decode cX11_rides 48 = .ok (.iadd, 1) := by decide +kernel
theorem dX11_rides_49 : decode cX11_rides 49 = .ok (.invokevirtual 373, 3) := by decide +kernel
theorem dX11_rides_52 : decode cX11_rides 52 = .ok (.ifCond .ne 6, 3) := by decide +kernel
theorem dX11_rides_55 : decode cX11_rides 55 = .ok (.iload 4, 2) := by decide +kernel
theorem dX11_rides_57 : decode cX11_rides 57 = .ok (.ireturn, 1) := by decide +kernel
theorem dX11_rides_58 : decode cX11_rides 58 = .ok (.aload_n 0, 1) := by decide +kernel
theorem dX11_rides_59 : decode cX11_rides 59 = .ok (.getfield 33, 3) := by decide +kernel
theorem dX11_rides_62 : decode cX11_rides 62 = .ok (.iload_n 2, 1) := by decide +kernel
theorem dX11_rides_63 : decode cX11_rides 63 = .ok (.invokevirtual 217, 3) := by decide +kernel
theorem dX11_rides_66 : decode cX11_rides 66 = .ok (.ifCond .eq 6, 3) := by decide +kernel
theorem dX11_rides_69 : decode cX11_rides 69 = .ok (.bipush 100, 2) := by decide +kernel
theorem dX11_rides_71 : decode cX11_rides 71 = .ok (.ireturn, 1) := by decide +kernel
theorem dX11_rides_72 : decode cX11_rides 72 = .ok (.iinc 4 1, 3) := by decide +kernel
theorem dX11_rides_75 : decode cX11_rides 75 = .ok (.goto (-51), 3) := by decide +kernel
theorem dX11_rides_78 : decode cX11_rides 78 = .ok (.bipush 100, 2) := by decide +kernel
theorem dX11_rides_80 : decode cX11_rides 80 = .ok (.ireturn, 1) := by decide +kernel
theorem dX11_minutesRidden_0 : decode cX11_minutesRidden 0 = .ok (.bipush 6, 2) := by decide +kernel
theorem dX11_minutesRidden_2 : decode cX11_minutesRidden 2 = .ok (.iload_n 0, 1) := by decide +kernel
theorem dX11_minutesRidden_3 : decode cX11_minutesRidden 3 = .ok (.imul, 1) := by decide +kernel
theorem dX11_minutesRidden_4 : decode cX11_minutesRidden 4 = .ok (.iconst 3, 1) := by decide +kernel
theorem dX11_minutesRidden_5 : decode cX11_minutesRidden 5 = .ok (.iload_n 1, 1) := by decide +kernel
theorem dX11_minutesRidden_6 : decode cX11_minutesRidden 6 = .ok (.imul, 1) := by decide +kernel
theorem dX11_minutesRidden_7 : decode cX11_minutesRidden 7 = .ok (.iadd, 1) := by decide +kernel
theorem dX11_minutesRidden_8 : decode cX11_minutesRidden 8 = .ok (.ireturn, 1) := by decide +kernel
theorem dX11_pumpedOver_0 : decode cX11_pumpedOver 0 = .ok (.aload_n 0, 1) := by decide +kernel
theorem dX11_pumpedOver_1 : decode cX11_pumpedOver 1 = .ok (.iconst 1, 1) := by decide +kernel
theorem dX11_pumpedOver_2 : decode cX11_pumpedOver 2 = .ok (.invokevirtual 181, 3) := by decide +kernel
theorem dX11_pumpedOver_5 : decode cX11_pumpedOver 5 = .ok (.istore_n 2, 1) := by decide +kernel
theorem dX11_pumpedOver_6 : decode cX11_pumpedOver 6 = .ok (.aload_n 0, 1) := by decide +kernel
theorem dX11_pumpedOver_7 : decode cX11_pumpedOver 7 = .ok (.getfield 63, 3) := by decide +kernel
theorem dX11_pumpedOver_10 : decode cX11_pumpedOver 10 = .ok (.getfield 144, 3) := by decide +kernel
theorem dX11_pumpedOver_13 : decode cX11_pumpedOver 13 = .ok (.istore_n 3, 1) := by decide +kernel
theorem dX11_pumpedOver_14 : decode cX11_pumpedOver 14 = .ok (.iconst 0, 1) := by decide +kernel
theorem dX11_pumpedOver_15 : decode cX11_pumpedOver 15 = .ok (.istore 4, 2) := by decide +kernel
theorem dX11_pumpedOver_17 : decode cX11_pumpedOver 17 = .ok (.iconst 0, 1) := by decide +kernel
theorem dX11_pumpedOver_18 : decode cX11_pumpedOver 18 = .ok (.istore 5, 2) := by decide +kernel
theorem dX11_pumpedOver_20 : decode cX11_pumpedOver 20 = .ok (.iload 5, 2) := by decide +kernel
theorem dX11_pumpedOver_22 : decode cX11_pumpedOver 22 = .ok (.bipush 6, 2) := by decide +kernel
theorem dX11_pumpedOver_24 : decode cX11_pumpedOver 24 = .ok (.iload_n 1, 1) := by decide +kernel
theorem dX11_pumpedOver_25 : decode cX11_pumpedOver 25 = .ok (.imul, 1) := by decide +kernel
theorem dX11_pumpedOver_26 : decode cX11_pumpedOver 26 = .ok (.if_icmp .ge 88, 3) := by decide +kernel
theorem dX11_pumpedOver_29 : decode cX11_pumpedOver 29 = .ok (.aload_n 0, 1) := by decide +kernel
theorem dX11_pumpedOver_30 : decode cX11_pumpedOver 30 = .ok (.getfield 63, 3) := by decide +kernel
theorem dX11_pumpedOver_33 : decode cX11_pumpedOver 33 = .ok (.getfield 147, 3) := by decide +kernel
theorem dX11_pumpedOver_36 : decode cX11_pumpedOver 36 = .ok (.iload 5, 2) := by decide +kernel
theorem dX11_pumpedOver_38 : decode cX11_pumpedOver 38 = .ok (.iadd, 1) := by decide +kernel
theorem dX11_pumpedOver_39 : decode cX11_pumpedOver 39 = .ok (.istore 6, 2) := by decide +kernel
theorem dX11_pumpedOver_41 : decode cX11_pumpedOver 41 = .ok (.iload_n 3, 1) := by decide +kernel
theorem dX11_pumpedOver_42 : decode cX11_pumpedOver 42 = .ok (.aload_n 0, 1) := by decide +kernel
theorem dX11_pumpedOver_43 : decode cX11_pumpedOver 43 = .ok (.getfield 33, 3) := by decide +kernel
theorem dX11_pumpedOver_46 : decode cX11_pumpedOver 46 = .ok (.iload_n 2, 1) := by decide +kernel
theorem dX11_pumpedOver_47 : decode cX11_pumpedOver 47 = .ok (.iload_n 3, 1) := by decide +kernel
theorem dX11_pumpedOver_48 : decode cX11_pumpedOver 48 = .ok (.iload 6, 2) := by decide +kernel
theorem dX11_pumpedOver_50 : decode cX11_pumpedOver 50 = .ok (.iconst 1, 1) := by decide +kernel
theorem dX11_pumpedOver_51 : decode cX11_pumpedOver 51 = .ok (.invokevirtual 185, 3) := by decide +kernel
theorem dX11_pumpedOver_54 : decode cX11_pumpedOver 54 = .ok (.isub, 1) := by decide +kernel
theorem dX11_pumpedOver_55 : decode cX11_pumpedOver 55 = .ok (.istore 7, 2) := by decide +kernel
theorem dX11_pumpedOver_57 : decode cX11_pumpedOver 57 = .ok (.iload 7, 2) := by decide +kernel
theorem dX11_pumpedOver_59 : decode cX11_pumpedOver 59 = .ok (.sipush 10000, 3) := by decide +kernel
theorem dX11_pumpedOver_62 : decode cX11_pumpedOver 62 = .ok (.if_icmp .ge 33, 3) := by decide +kernel
theorem dX11_pumpedOver_65 : decode cX11_pumpedOver 65 = .ok (.iinc 4 1, 3) := by decide +kernel
theorem dX11_pumpedOver_68 : decode cX11_pumpedOver 68 = .ok (.aload_n 0, 1) := by decide +kernel
theorem dX11_pumpedOver_69 : decode cX11_pumpedOver 69 = .ok (.getfield 33, 3) := by decide +kernel
theorem dX11_pumpedOver_72 : decode cX11_pumpedOver 72 = .ok (.invokevirtual 201, 3) := by decide +kernel
theorem dX11_pumpedOver_75 : decode cX11_pumpedOver 75 = .ok (.istore 8, 2) := by decide +kernel
theorem dX11_pumpedOver_77 : decode cX11_pumpedOver 77 = .ok (.iload 8, 2) := by decide +kernel
theorem dX11_pumpedOver_79 : decode cX11_pumpedOver 79 = .ok (.aload_n 0, 1) := by decide +kernel
theorem dX11_pumpedOver_80 : decode cX11_pumpedOver 80 = .ok (.getfield 33, 3) := by decide +kernel
theorem dX11_pumpedOver_83 : decode cX11_pumpedOver 83 = .ok (.iload_n 2, 1) := by decide +kernel
theorem dX11_pumpedOver_84 : decode cX11_pumpedOver 84 = .ok (.iload 8, 2) := by decide +kernel
theorem dX11_pumpedOver_86 : decode cX11_pumpedOver 86 = .ok (.iload 6, 2) := by decide +kernel
theorem dX11_pumpedOver_88 : decode cX11_pumpedOver 88 = .ok (.iconst 1, 1) := by decide +kernel
theorem dX11_pumpedOver_89 : decode cX11_pumpedOver 89 = .ok (.invokevirtual 185, 3) := by decide +kernel
theorem dX11_pumpedOver_92 : decode cX11_pumpedOver 92 = .ok (.isub, 1) := by decide +kernel
theorem dX11_pumpedOver_93 : decode cX11_pumpedOver 93 = .ok (.istore 7, 2) := by decide +kernel
theorem dX11_pumpedOver_95 : decode cX11_pumpedOver 95 = .ok (.iload 7, 2) := by decide +kernel
theorem dX11_pumpedOver_97 : decode cX11_pumpedOver 97 = .ok (.sipush 10000, 3) := by decide +kernel
theorem dX11_pumpedOver_100 : decode cX11_pumpedOver 100 = .ok (.if_icmp .ge 5, 3) := by decide +kernel
theorem dX11_pumpedOver_103 : decode cX11_pumpedOver 103 = .ok (.iconst (-1), 1) := by decide +kernel
theorem dX11_pumpedOver_104 : decode cX11_pumpedOver 104 = .ok (.ireturn, 1) := by decide +kernel
theorem dX11_pumpedOver_105 : decode cX11_pumpedOver 105 = .ok (.iload 7, 2) := by decide +kernel
theorem dX11_pumpedOver_107 : decode cX11_pumpedOver 107 = .ok (.istore_n 3, 1) := by decide +kernel
theorem dX11_pumpedOver_108 : decode cX11_pumpedOver 108 = .ok (.iinc 5 1, 3) := by decide +kernel
theorem dX11_pumpedOver_111 : decode cX11_pumpedOver 111 = .ok (.goto (-91), 3) := by decide +kernel
theorem dX11_pumpedOver_114 : decode cX11_pumpedOver 114 = .ok (.iload 4, 2) := by decide +kernel
theorem dX11_pumpedOver_116 : decode cX11_pumpedOver 116 = .ok (.ireturn, 1) := by decide +kernel
theorem dX11_dark_0 : decode cX11_dark 0 = .ok (.iload_n 1, 1) := by decide +kernel
theorem dX11_dark_1 : decode cX11_dark 1 = .ok (.ifCond .lt 7, 3) := by decide +kernel
theorem dX11_dark_4 : decode cX11_dark 4 = .ok (.iconst 1, 1) := by decide +kernel
theorem dX11_dark_5 : decode cX11_dark 5 = .ok (.goto 4, 3) := by decide +kernel
theorem dX11_dark_8 : decode cX11_dark 8 = .ok (.iconst 0, 1) := by decide +kernel
theorem dX11_dark_9 : decode cX11_dark 9 = .ok (.invokestatic 214, 3) := by decide +kernel
theorem dX11_dark_12 : decode cX11_dark 12 = .ok (.iload_n 1, 1) := by decide +kernel
theorem dX11_dark_13 : decode cX11_dark 13 = .ok (.aload_n 0, 1) := by decide +kernel
theorem dX11_dark_14 : decode cX11_dark 14 = .ok (.getfield 33, 3) := by decide +kernel
theorem dX11_dark_17 : decode cX11_dark 17 = .ok (.getfield 130, 3) := by decide +kernel
theorem dX11_dark_20 : decode cX11_dark 20 = .ok (.getfield 134, 3) := by decide +kernel
theorem dX11_dark_23 : decode cX11_dark 23 = .ok (.if_icmp .lt 5, 3) := by decide +kernel
theorem dX11_dark_26 : decode cX11_dark 26 = .ok (.iconst (-1), 1) := by decide +kernel
theorem dX11_dark_27 : decode cX11_dark 27 = .ok (.ireturn, 1) := by decide +kernel
theorem dX11_dark_28 : decode cX11_dark 28 = .ok (.aload_n 0, 1) := by decide +kernel
theorem dX11_dark_29 : decode cX11_dark 29 = .ok (.getfield 33, 3) := by decide +kernel
theorem dX11_dark_32 : decode cX11_dark 32 = .ok (.getfield 130, 3) := by decide +kernel
theorem dX11_dark_35 : decode cX11_dark 35 = .ok (.aload_n 0, 1) := by decide +kernel
theorem dX11_dark_36 : decode cX11_dark 36 = .ok (.getfield 27, 3) := by decide +kernel
theorem dX11_dark_39 : decode cX11_dark 39 = .ok (.invokevirtual 376, 3) := by decide +kernel
theorem dX11_dark_42 : decode cX11_dark 42 = .ok (.aload_n 0, 1) := by decide +kernel
theorem dX11_dark_43 : decode cX11_dark 43 = .ok (.getfield 27, 3) := by decide +kernel
theorem dX11_dark_46 : decode cX11_dark 46 = .ok (.iload_n 1, 1) := by decide +kernel
theorem dX11_dark_47 : decode cX11_dark 47 = .ok (.iaload, 1) := by decide +kernel
theorem dX11_dark_48 : decode cX11_dark 48 = .ok (.ireturn, 1) := by decide +kernel
theorem dX11_mean_0 : decode cX11_mean 0 = .ok (.iload_n 1, 1) := by decide +kernel
theorem dX11_mean_1 : decode cX11_mean 1 = .ok (.iconst 0, 1) := by decide +kernel
theorem dX11_mean_2 : decode cX11_mean 2 = .ok (.iconst 1, 1) := by decide +kernel
theorem dX11_mean_3 : decode cX11_mean 3 = .ok (.invokestatic 78, 3) := by decide +kernel
theorem dX11_mean_6 : decode cX11_mean 6 = .ok (.invokestatic 214, 3) := by decide +kernel
theorem dX11_mean_9 : decode cX11_mean 9 = .ok (.aload_n 0, 1) := by decide +kernel
theorem dX11_mean_10 : decode cX11_mean 10 = .ok (.getfield 33, 3) := by decide +kernel
theorem dX11_mean_13 : decode cX11_mean 13 = .ok (.getfield 130, 3) := by decide +kernel
theorem dX11_mean_16 : decode cX11_mean 16 = .ok (.aload_n 0, 1) := by decide +kernel
theorem dX11_mean_17 : decode cX11_mean 17 = .ok (.getfield 27, 3) := by decide +kernel
theorem dX11_mean_20 : decode cX11_mean 20 = .ok (.invokevirtual 376, 3) := by decide +kernel
theorem dX11_mean_23 : decode cX11_mean 23 = .ok (.iconst 0, 1) := by decide +kernel
theorem dX11_mean_24 : decode cX11_mean 24 = .ok (.istore_n 2, 1) := by decide +kernel
theorem dX11_mean_25 : decode cX11_mean 25 = .ok (.iconst 0, 1) := by decide +kernel
theorem dX11_mean_26 : decode cX11_mean 26 = .ok (.istore_n 3, 1) := by decide +kernel
theorem dX11_mean_27 : decode cX11_mean 27 = .ok (.iconst 0, 1) := by decide +kernel
theorem dX11_mean_28 : decode cX11_mean 28 = .ok (.istore 4, 2) := by decide +kernel
theorem dX11_mean_30 : decode cX11_mean 30 = .ok (.iconst 0, 1) := by decide +kernel
theorem dX11_mean_31 : decode cX11_mean 31 = .ok (.istore 5, 2) := by decide +kernel
theorem dX11_mean_33 : decode cX11_mean 33 = .ok (.iload 5, 2) := by decide +kernel
theorem dX11_mean_35 : decode cX11_mean 35 = .ok (.aload_n 0, 1) := by decide +kernel
theorem dX11_mean_36 : decode cX11_mean 36 = .ok (.getfield 33, 3) := by decide +kernel
theorem dX11_mean_39 : decode cX11_mean 39 = .ok (.getfield 130, 3) := by decide +kernel
theorem dX11_mean_42 : decode cX11_mean 42 = .ok (.getfield 134, 3) := by decide +kernel
theorem dX11_mean_45 : decode cX11_mean 45 = .ok (.if_icmp .ge 70, 3) := by decide +kernel
theorem dX11_mean_48 : decode cX11_mean 48 = .ok (.aload_n 0, 1) := by decide +kernel
theorem dX11_mean_49 : decode cX11_mean 49 = .ok (.getfield 27, 3) := by decide +kernel
theorem dX11_mean_52 : decode cX11_mean 52 = .ok (.iload 5, 2) := by decide +kernel
theorem dX11_mean_54 : decode cX11_mean 54 = .ok (.iaload, 1) := by decide +kernel
theorem dX11_mean_55 : decode cX11_mean 55 = .ok (.istore 6, 2) := by decide +kernel
theorem dX11_mean_57 : decode cX11_mean 57 = .ok (.iload_n 2, 1) := by decide +kernel
theorem dX11_mean_58 : decode cX11_mean 58 = .ok (.aload_n 0, 1) := by decide +kernel
theorem dX11_mean_59 : decode cX11_mean 59 = .ok (.getfield 33, 3) := by decide +kernel
theorem dX11_mean_62 : decode cX11_mean 62 = .ok (.getfield 130, 3) := by decide +kernel
theorem dX11_mean_65 : decode cX11_mean 65 = .ok (.getfield 380, 3) := by decide +kernel
theorem dX11_mean_68 : decode cX11_mean 68 = .ok (.iload 6, 2) := by decide +kernel
theorem dX11_mean_70 : decode cX11_mean 70 = .ok (.iaload, 1) := by decide +kernel
theorem dX11_mean_71 : decode cX11_mean 71 = .ok (.iadd, 1) := by decide +kernel
theorem dX11_mean_72 : decode cX11_mean 72 = .ok (.istore_n 2, 1) := by decide +kernel
theorem dX11_mean_73 : decode cX11_mean 73 = .ok (.iload_n 3, 1) := by decide +kernel
theorem dX11_mean_74 : decode cX11_mean 74 = .ok (.iload_n 2, 1) := by decide +kernel
theorem dX11_mean_75 : decode cX11_mean 75 = .ok (.aload_n 0, 1) := by decide +kernel
theorem dX11_mean_76 : decode cX11_mean 76 = .ok (.getfield 33, 3) := by decide +kernel
theorem dX11_mean_79 : decode cX11_mean 79 = .ok (.getfield 130, 3) := by decide +kernel
theorem dX11_mean_82 : decode cX11_mean 82 = .ok (.getfield 383, 3) := by decide +kernel
theorem dX11_mean_85 : decode cX11_mean 85 = .ok (.iload 6, 2) := by decide +kernel
theorem dX11_mean_87 : decode cX11_mean 87 = .ok (.iaload, 1) := by decide +kernel
theorem dX11_mean_88 : decode cX11_mean 88 = .ok (.imul, 1) := by decide +kernel
theorem dX11_mean_89 : decode cX11_mean 89 = .ok (.iadd, 1) := by decide +kernel
theorem dX11_mean_90 : decode cX11_mean 90 = .ok (.istore_n 3, 1) := by decide +kernel
theorem dX11_mean_91 : decode cX11_mean 91 = .ok (.iload 4, 2) := by decide +kernel
theorem dX11_mean_93 : decode cX11_mean 93 = .ok (.aload_n 0, 1) := by decide +kernel
theorem dX11_mean_94 : decode cX11_mean 94 = .ok (.getfield 33, 3) := by decide +kernel
theorem dX11_mean_97 : decode cX11_mean 97 = .ok (.getfield 130, 3) := by decide +kernel
theorem dX11_mean_100 : decode cX11_mean 100 = .ok (.getfield 383, 3) := by decide +kernel
theorem dX11_mean_103 : decode cX11_mean 103 = .ok (.iload 6, 2) := by decide +kernel
theorem dX11_mean_105 : decode cX11_mean 105 = .ok (.iaload, 1) := by decide +kernel
theorem dX11_mean_106 : decode cX11_mean 106 = .ok (.iadd, 1) := by decide +kernel
theorem dX11_mean_107 : decode cX11_mean 107 = .ok (.istore 4, 2) := by decide +kernel
theorem dX11_mean_109 : decode cX11_mean 109 = .ok (.iinc 5 1, 3) := by decide +kernel
theorem dX11_mean_112 : decode cX11_mean 112 = .ok (.goto (-79), 3) := by decide +kernel
theorem dX11_mean_115 : decode cX11_mean 115 = .ok (.iload_n 1, 1) := by decide +kernel
theorem dX11_mean_116 : decode cX11_mean 116 = .ok (.ifCond .ne 7, 3) := by decide +kernel
theorem dX11_mean_119 : decode cX11_mean 119 = .ok (.iload_n 3, 1) := by decide +kernel
theorem dX11_mean_120 : decode cX11_mean 120 = .ok (.goto 5, 3) := by decide +kernel
theorem dX11_mean_123 : decode cX11_mean 123 = .ok (.iload 4, 2) := by decide +kernel
theorem dX11_mean_125 : decode cX11_mean 125 = .ok (.ireturn, 1) := by decide +kernel
theorem dX11_tacks_0 : decode cX11_tacks 0 = .ok (.iload_n 1, 1) := by decide +kernel
theorem dX11_tacks_1 : decode cX11_tacks 1 = .ok (.iconst 0, 1) := by decide +kernel
theorem dX11_tacks_2 : decode cX11_tacks 2 = .ok (.iconst 2, 1) := by decide +kernel
theorem dX11_tacks_3 : decode cX11_tacks 3 = .ok (.invokestatic 78, 3) := by decide +kernel
theorem dX11_tacks_6 : decode cX11_tacks 6 = .ok (.invokestatic 214, 3) := by decide +kernel
theorem dX11_tacks_9 : decode cX11_tacks 9 = .ok (.iconst 0, 1) := by decide +kernel
theorem dX11_tacks_10 : decode cX11_tacks 10 = .ok (.istore_n 2, 1) := by decide +kernel
theorem dX11_tacks_11 : decode cX11_tacks 11 = .ok (.iconst (-1), 1) := by decide +kernel
theorem dX11_tacks_12 : decode cX11_tacks 12 = .ok (.istore_n 3, 1) := by decide +kernel
theorem dX11_tacks_13 : decode cX11_tacks 13 = .ok (.iconst 0, 1) := by decide +kernel
theorem dX11_tacks_14 : decode cX11_tacks 14 = .ok (.istore 4, 2) := by decide +kernel
theorem dX11_tacks_16 : decode cX11_tacks 16 = .ok (.iload 4, 2) := by decide +kernel
theorem dX11_tacks_18 : decode cX11_tacks 18 = .ok (.bipush 40, 2) := by decide +kernel
theorem dX11_tacks_20 : decode cX11_tacks 20 = .ok (.if_icmp .ge 41, 3) := by decide +kernel
theorem dX11_tacks_23 : decode cX11_tacks 23 = .ok (.aload_n 0, 1) := by decide +kernel
theorem dX11_tacks_24 : decode cX11_tacks 24 = .ok (.getfield 33, 3) := by decide +kernel
theorem dX11_tacks_27 : decode cX11_tacks 27 = .ok (.getfield 137, 3) := by decide +kernel
theorem dX11_tacks_30 : decode cX11_tacks 30 = .ok (.iload 4, 2) := by decide +kernel
theorem dX11_tacks_32 : decode cX11_tacks 32 = .ok (.invokevirtual 386, 3) := by decide +kernel
theorem dX11_tacks_35 : decode cX11_tacks 35 = .ok (.istore 5, 2) := by decide +kernel
theorem dX11_tacks_37 : decode cX11_tacks 37 = .ok (.iload_n 2, 1) := by decide +kernel
theorem dX11_tacks_38 : decode cX11_tacks 38 = .ok (.iload 5, 2) := by decide +kernel
theorem dX11_tacks_40 : decode cX11_tacks 40 = .ok (.iadd, 1) := by decide +kernel
theorem dX11_tacks_41 : decode cX11_tacks 41 = .ok (.istore_n 2, 1) := by decide +kernel
theorem dX11_tacks_42 : decode cX11_tacks 42 = .ok (.iload 5, 2) := by decide +kernel
theorem dX11_tacks_44 : decode cX11_tacks 44 = .ok (.ifCond .le 11, 3) := by decide +kernel
theorem dX11_tacks_47 : decode cX11_tacks 47 = .ok (.iload_n 3, 1) := by decide +kernel
theorem dX11_tacks_48 : decode cX11_tacks 48 = .ok (.iconst (-1), 1) := by decide +kernel
theorem dX11_tacks_49 : decode cX11_tacks 49 = .ok (.if_icmp .ne 6, 3) := by decide +kernel
theorem dX11_tacks_52 : decode cX11_tacks 52 = .ok (.iload 4, 2) := by decide +kernel
theorem dX11_tacks_54 : decode cX11_tacks 54 = .ok (.istore_n 3, 1) := by decide +kernel
theorem dX11_tacks_55 : decode cX11_tacks 55 = .ok (.iinc 4 1, 3) := by decide +kernel
theorem dX11_tacks_58 : decode cX11_tacks 58 = .ok (.goto (-42), 3) := by decide +kernel
theorem dX11_tacks_61 : decode cX11_tacks 61 = .ok (.iload_n 1, 1) := by decide +kernel
theorem dX11_tacks_62 : decode cX11_tacks 62 = .ok (.ifCond .ne 5, 3) := by decide +kernel
theorem dX11_tacks_65 : decode cX11_tacks 65 = .ok (.iload_n 2, 1) := by decide +kernel
theorem dX11_tacks_66 : decode cX11_tacks 66 = .ok (.ireturn, 1) := by decide +kernel
theorem dX11_tacks_67 : decode cX11_tacks 67 = .ok (.iload_n 1, 1) := by decide +kernel
theorem dX11_tacks_68 : decode cX11_tacks 68 = .ok (.iconst 1, 1) := by decide +kernel
theorem dX11_tacks_69 : decode cX11_tacks 69 = .ok (.if_icmp .eq 8, 3) := by decide +kernel
theorem dX11_tacks_72 : decode cX11_tacks 72 = .ok (.iload_n 3, 1) := by decide +kernel
theorem dX11_tacks_73 : decode cX11_tacks 73 = .ok (.iconst (-1), 1) := by decide +kernel
theorem dX11_tacks_74 : decode cX11_tacks 74 = .ok (.if_icmp .ne 7, 3) := by decide +kernel
theorem dX11_tacks_77 : decode cX11_tacks 77 = .ok (.iload_n 3, 1) := by decide +kernel
theorem dX11_tacks_78 : decode cX11_tacks 78 = .ok (.goto 14, 3) := by decide +kernel
theorem dX11_tacks_81 : decode cX11_tacks 81 = .ok (.aload_n 0, 1) := by decide +kernel
theorem dX11_tacks_82 : decode cX11_tacks 82 = .ok (.getfield 33, 3) := by decide +kernel
theorem dX11_tacks_85 : decode cX11_tacks 85 = .ok (.getfield 137, 3) := by decide +kernel
theorem dX11_tacks_88 : decode cX11_tacks 88 = .ok (.iload_n 3, 1) := by decide +kernel
theorem dX11_tacks_89 : decode cX11_tacks 89 = .ok (.invokevirtual 389, 3) := by decide +kernel
theorem dX11_tacks_92 : decode cX11_tacks 92 = .ok (.ireturn, 1) := by decide +kernel
theorem dX11_cell_0 : decode cX11_cell 0 = .ok (.iload_n 1, 1) := by decide +kernel
theorem dX11_cell_1 : decode cX11_cell 1 = .ok (.iconst 0, 1) := by decide +kernel
theorem dX11_cell_2 : decode cX11_cell 2 = .ok (.bipush 39, 2) := by decide +kernel
theorem dX11_cell_4 : decode cX11_cell 4 = .ok (.invokestatic 78, 3) := by decide +kernel
theorem dX11_cell_7 : decode cX11_cell 7 = .ok (.invokestatic 214, 3) := by decide +kernel
theorem dX11_cell_10 : decode cX11_cell 10 = .ok (.aload_n 0, 1) := by decide +kernel
theorem dX11_cell_11 : decode cX11_cell 11 = .ok (.getfield 33, 3) := by decide +kernel
theorem dX11_cell_14 : decode cX11_cell 14 = .ok (.getfield 137, 3) := by decide +kernel
theorem dX11_cell_17 : decode cX11_cell 17 = .ok (.iload_n 1, 1) := by decide +kernel
theorem dX11_cell_18 : decode cX11_cell 18 = .ok (.invokevirtual 386, 3) := by decide +kernel
theorem dX11_cell_21 : decode cX11_cell 21 = .ok (.ireturn, 1) := by decide +kernel
theorem dX11_image_0 : decode cX11_image 0 = .ok (.aload_n 0, 1) := by decide +kernel
theorem dX11_image_1 : decode cX11_image 1 = .ok (.aload_n 0, 1) := by decide +kernel
theorem dX11_image_2 : decode cX11_image 2 = .ok (.getfield 63, 3) := by decide +kernel
theorem dX11_image_5 : decode cX11_image 5 = .ok (.putfield 102, 3) := by decide +kernel
theorem dX11_image_8 : decode cX11_image 8 = .ok (.aload_n 0, 1) := by decide +kernel
theorem dX11_image_9 : decode cX11_image 9 = .ok (.aload_n 0, 1) := by decide +kernel
theorem dX11_image_10 : decode cX11_image 10 = .ok (.getfield 99, 3) := by decide +kernel
theorem dX11_image_13 : decode cX11_image 13 = .ok (.putfield 105, 3) := by decide +kernel
theorem dX11_image_16 : decode cX11_image 16 = .ok (.return_, 1) := by decide +kernel
theorem dX11_restore_0 : decode cX11_restore 0 = .ok (.aload_n 0, 1) := by decide +kernel
theorem dX11_restore_1 : decode cX11_restore 1 = .ok (.getfield 102, 3) := by decide +kernel
theorem dX11_restore_4 : decode cX11_restore 4 = .ok (.ifnonnull 5, 3) := by decide +kernel
theorem dX11_restore_7 : decode cX11_restore 7 = .ok (.iconst 0, 1) := by decide +kernel
theorem dX11_restore_8 : decode cX11_restore 8 = .ok (.ireturn, 1) := by decide +kernel
theorem dX11_restore_9 : decode cX11_restore 9 = .ok (.aload_n 0, 1) := by decide +kernel
theorem dX11_restore_10 : decode cX11_restore 10 = .ok (.aload_n 0, 1) := by decide +kernel
theorem dX11_restore_11 : decode cX11_restore 11 = .ok (.getfield 102, 3) := by decide +kernel
theorem dX11_restore_14 : decode cX11_restore 14 = .ok (.putfield 63, 3) := by decide +kernel
theorem dX11_restore_17 : decode cX11_restore 17 = .ok (.aload_n 0, 1) := by decide +kernel
theorem dX11_restore_18 : decode cX11_restore 18 = .ok (.aload_n 0, 1) := by decide +kernel
theorem dX11_restore_19 : decode cX11_restore 19 = .ok (.getfield 105, 3) := by decide +kernel
theorem dX11_restore_22 : decode cX11_restore 22 = .ok (.putfield 99, 3) := by decide +kernel
theorem dX11_restore_25 : decode cX11_restore 25 = .ok (.aload_n 0, 1) := by decide +kernel
theorem dX11_restore_26 : decode cX11_restore 26 = .ok (.getfield 19, 3) := by decide +kernel
theorem dX11_restore_29 : decode cX11_restore 29 = .ok (.invokevirtual 112, 3) := by decide +kernel
theorem dX11_restore_32 : decode cX11_restore 32 = .ok (.iconst 1, 1) := by decide +kernel
theorem dX11_restore_33 : decode cX11_restore 33 = .ok (.ireturn, 1) := by decide +kernel
theorem dX11_keepAct_0 : decode cX11_keepAct 0 = .ok (.aload_n 0, 1) := by decide +kernel
theorem dX11_keepAct_1 : decode cX11_keepAct 1 = .ok (.new 58, 3) := by decide +kernel
theorem dX11_keepAct_4 : decode cX11_keepAct 4 = .ok (.dup, 1) := by decide +kernel
theorem dX11_keepAct_5 : decode cX11_keepAct 5 = .ok (.aload_n 0, 1) := by decide +kernel
theorem dX11_keepAct_6 : decode cX11_keepAct 6 = .ok (.getfield 63, 3) := by decide +kernel
theorem dX11_keepAct_9 : decode cX11_keepAct 9 = .ok (.iload_n 1, 1) := by decide +kernel
theorem dX11_keepAct_10 : decode cX11_keepAct 10 = .ok (.iload_n 2, 1) := by decide +kernel
theorem dX11_keepAct_11 : decode cX11_keepAct 11 = .ok (.iload_n 3, 1) := by decide +kernel
theorem dX11_keepAct_12 : decode cX11_keepAct 12 = .ok (.aload 4, 2) := by decide +kernel
theorem dX11_keepAct_14 : decode cX11_keepAct 14 = .ok (.invokespecial 392, 3) := by decide +kernel
theorem dX11_keepAct_17 : decode cX11_keepAct 17 = .ok (.putfield 63, 3) := by decide +kernel
theorem dX11_keepAct_20 : decode cX11_keepAct 20 = .ok (.aload_n 0, 1) := by decide +kernel
theorem dX11_keepAct_21 : decode cX11_keepAct 21 = .ok (.aload_n 0, 1) := by decide +kernel
theorem dX11_keepAct_22 : decode cX11_keepAct 22 = .ok (.getfield 99, 3) := by decide +kernel
theorem dX11_keepAct_25 : decode cX11_keepAct 25 = .ok (.iconst 1, 1) := by decide +kernel
theorem dX11_keepAct_26 : decode cX11_keepAct 26 = .ok (.iadd, 1) := by decide +kernel
theorem dX11_keepAct_27 : decode cX11_keepAct 27 = .ok (.bipush 40, 2) := by decide +kernel
theorem dX11_keepAct_29 : decode cX11_keepAct 29 = .ok (.invokestatic 357, 3) := by decide +kernel
theorem dX11_keepAct_32 : decode cX11_keepAct 32 = .ok (.putfield 99, 3) := by decide +kernel
theorem dX11_keepAct_35 : decode cX11_keepAct 35 = .ok (.return_, 1) := by decide +kernel
theorem dX11_refuseAct_0 : decode cX11_refuseAct 0 = .ok (.aload_n 0, 1) := by decide +kernel
theorem dX11_refuseAct_1 : decode cX11_refuseAct 1 = .ok (.dup, 1) := by decide +kernel
theorem dX11_refuseAct_2 : decode cX11_refuseAct 2 = .ok (.getfield 150, 3) := by decide +kernel
theorem dX11_refuseAct_5 : decode cX11_refuseAct 5 = .ok (.iconst 1, 1) := by decide +kernel
theorem dX11_refuseAct_6 : decode cX11_refuseAct 6 = .ok (.iadd, 1) := by decide +kernel
theorem dX11_refuseAct_7 : decode cX11_refuseAct 7 = .ok (.putfield 150, 3) := by decide +kernel
theorem dX11_refuseAct_10 : decode cX11_refuseAct 10 = .ok (.iconst (-1), 1) := by decide +kernel
theorem dX11_refuseAct_11 : decode cX11_refuseAct 11 = .ok (.ireturn, 1) := by decide +kernel
theorem dX11_isInch_0 : decode cX11_isInch 0 = .ok (.iload_n 1, 1) := by decide +kernel
theorem dX11_isInch_1 : decode cX11_isInch 1 = .ok (.iconst 0, 1) := by decide +kernel
theorem dX11_isInch_2 : decode cX11_isInch 2 = .ok (.aload_n 0, 1) := by decide +kernel
theorem dX11_isInch_3 : decode cX11_isInch 3 = .ok (.getfield 33, 3) := by decide +kernel
theorem dX11_isInch_6 : decode cX11_isInch 6 = .ok (.invokevirtual 248, 3) := by decide +kernel
theorem dX11_isInch_9 : decode cX11_isInch 9 = .ok (.iconst 1, 1) := by decide +kernel
theorem dX11_isInch_10 : decode cX11_isInch 10 = .ok (.isub, 1) := by decide +kernel
theorem dX11_isInch_11 : decode cX11_isInch 11 = .ok (.invokestatic 78, 3) := by decide +kernel
theorem dX11_isInch_14 : decode cX11_isInch 14 = .ok (.ireturn, 1) := by decide +kernel
theorem dX11_needHole_0 : decode cX11_needHole 0 = .ok (.iload_n 1, 1) := by decide +kernel
theorem dX11_needHole_1 : decode cX11_needHole 1 = .ok (.iconst 0, 1) := by decide +kernel
theorem dX11_needHole_2 : decode cX11_needHole 2 = .ok (.aload_n 0, 1) := by decide +kernel
theorem dX11_needHole_3 : decode cX11_needHole 3 = .ok (.getfield 33, 3) := by decide +kernel
theorem dX11_needHole_6 : decode cX11_needHole 6 = .ok (.getfield 121, 3) := by decide +kernel
theorem dX11_needHole_9 : decode cX11_needHole 9 = .ok (.getfield 125, 3) := by decide +kernel
theorem dX11_needHole_12 : decode cX11_needHole 12 = .ok (.iconst 1, 1) := by decide +kernel
theorem dX11_needHole_13 : decode cX11_needHole 13 = .ok (.isub, 1) := by decide +kernel
theorem dX11_needHole_14 : decode cX11_needHole 14 = .ok (.invokestatic 78, 3) := by decide +kernel
theorem dX11_needHole_17 : decode cX11_needHole 17 = .ok (.invokestatic 214, 3) := by decide +kernel
theorem dX11_needHole_20 : decode cX11_needHole 20 = .ok (.return_, 1) := by decide +kernel
theorem dX11_needPlace_0 : decode cX11_needPlace 0 = .ok (.iload_n 1, 1) := by decide +kernel
theorem dX11_needPlace_1 : decode cX11_needPlace 1 = .ok (.iconst 0, 1) := by decide +kernel
theorem dX11_needPlace_2 : decode cX11_needPlace 2 = .ok (.aload_n 0, 1) := by decide +kernel
theorem dX11_needPlace_3 : decode cX11_needPlace 3 = .ok (.getfield 63, 3) := by decide +kernel
theorem dX11_needPlace_6 : decode cX11_needPlace 6 = .ok (.getfield 193, 3) := by decide +kernel
theorem dX11_needPlace_9 : decode cX11_needPlace 9 = .ok (.arraylength, 1) := by decide +kernel
theorem dX11_needPlace_10 : decode cX11_needPlace 10 = .ok (.iconst 1, 1) := by decide +kernel
theorem dX11_needPlace_11 : decode cX11_needPlace 11 = .ok (.isub, 1) := by decide +kernel
theorem dX11_needPlace_12 : decode cX11_needPlace 12 = .ok (.invokestatic 78, 3) := by decide +kernel
theorem dX11_needPlace_15 : decode cX11_needPlace 15 = .ok (.invokestatic 214, 3) := by decide +kernel
theorem dX11_needPlace_18 : decode cX11_needPlace 18 = .ok (.return_, 1) := by decide +kernel
theorem dX11_isWithin_0 : decode cX11_isWithin 0 = .ok (.iload_n 0, 1) := by decide +kernel
theorem dX11_isWithin_1 : decode cX11_isWithin 1 = .ok (.iload_n 1, 1) := by decide +kernel
theorem dX11_isWithin_2 : decode cX11_isWithin 2 = .ok (.if_icmp .lt 12, 3) := by decide +kernel
theorem dX11_isWithin_5 : decode cX11_isWithin 5 = .ok (.iload_n 0, 1) := by decide +kernel
theorem dX11_isWithin_6 : decode cX11_isWithin 6 = .ok (.iload_n 2, 1) := by decide +kernel
theorem dX11_isWithin_7 : decode cX11_isWithin 7 = .ok (.if_icmp .gt 7, 3) := by decide +kernel
theorem dX11_isWithin_10 : decode cX11_isWithin 10 = .ok (.iconst 1, 1) := by decide +kernel
theorem dX11_isWithin_11 : decode cX11_isWithin 11 = .ok (.goto 4, 3) := by decide +kernel
theorem dX11_isWithin_14 : decode cX11_isWithin 14 = .ok (.iconst 0, 1) := by decide +kernel
theorem dX11_isWithin_15 : decode cX11_isWithin 15 = .ok (.ireturn, 1) := by decide +kernel
theorem dX11_isHundred_0 : decode cX11_isHundred 0 = .ok (.iload_n 0, 1) := by decide +kernel
theorem dX11_isHundred_1 : decode cX11_isHundred 1 = .ok (.iconst 0, 1) := by decide +kernel
theorem dX11_isHundred_2 : decode cX11_isHundred 2 = .ok (.bipush 100, 2) := by decide +kernel
theorem dX11_isHundred_4 : decode cX11_isHundred 4 = .ok (.invokestatic 78, 3) := by decide +kernel
theorem dX11_isHundred_7 : decode cX11_isHundred 7 = .ok (.ireturn, 1) := by decide +kernel
theorem dX11_needElement_0 : decode cX11_needElement 0 = .ok (.iload_n 0, 1) := by decide +kernel
theorem dX11_needElement_1 : decode cX11_needElement 1 = .ok (.ifCond .ne 14, 3) := by decide +kernel
theorem dX11_needElement_4 : decode cX11_needElement 4 = .ok (.new 153, 3) := by decide +kernel
theorem dX11_needElement_7 : decode cX11_needElement 7 = .ok (.dup, 1) := by decide +kernel
theorem dX11_needElement_8 : decode cX11_needElement 8 = .ok (.ldc_w 395, 3) := by decide +kernel
theorem dX11_needElement_11 : decode cX11_needElement 11 = .ok (.invokespecial 157, 3) := by decide +kernel
theorem dX11_needElement_14 : decode cX11_needElement 14 = .ok (.athrow, 1) := by decide +kernel
theorem dX11_needElement_15 : decode cX11_needElement 15 = .ok (.return_, 1) := by decide +kernel
theorem dX11_needArgument_0 : decode cX11_needArgument 0 = .ok (.iload_n 0, 1) := by decide +kernel
theorem dX11_needArgument_1 : decode cX11_needArgument 1 = .ok (.ifCond .ne 14, 3) := by decide +kernel
theorem dX11_needArgument_4 : decode cX11_needArgument 4 = .ok (.new 397, 3) := by decide +kernel
theorem dX11_needArgument_7 : decode cX11_needArgument 7 = .ok (.dup, 1) := by decide +kernel
theorem dX11_needArgument_8 : decode cX11_needArgument 8 = .ok (.ldc_w 399, 3) := by decide +kernel
theorem dX11_needArgument_11 : decode cX11_needArgument 11 = .ok (.invokespecial 401, 3) := by decide +kernel
theorem dX11_needArgument_14 : decode cX11_needArgument 14 = .ok (.athrow, 1) := by decide +kernel
theorem dX11_needArgument_15 : decode cX11_needArgument 15 = .ok (.return_, 1) := by decide +kernel
theorem dX11_grownSeed_0 : decode cX11_grownSeed 0 = .ok (.iload_n 0, 1) := by decide +kernel
theorem dX11_grownSeed_1 : decode cX11_grownSeed 1 = .ok (.ldc_w 402, 3) := by decide +kernel
theorem dX11_grownSeed_4 : decode cX11_grownSeed 4 = .ok (.imul, 1) := by decide +kernel
theorem dX11_grownSeed_5 : decode cX11_grownSeed 5 = .ok (.sipush 12345, 3) := by decide +kernel
theorem dX11_grownSeed_8 : decode cX11_grownSeed 8 = .ok (.iadd, 1) := by decide +kernel
theorem dX11_grownSeed_9 : decode cX11_grownSeed 9 = .ok (.ireturn, 1) := by decide +kernel
theorem dX11_drawOfHundred_0 : decode cX11_drawOfHundred 0 = .ok (.iload_n 0, 1) := by decide +kernel
theorem dX11_drawOfHundred_1 : decode cX11_drawOfHundred 1 = .ok (.bipush 16, 2) := by decide +kernel
theorem dX11_drawOfHundred_3 : decode cX11_drawOfHundred 3 = .ok (.iushr, 1) := by decide +kernel
theorem dX11_drawOfHundred_4 : decode cX11_drawOfHundred 4 = .ok (.sipush 32767, 3) := by decide +kernel
theorem dX11_drawOfHundred_7 : decode cX11_drawOfHundred 7 = .ok (.iand, 1) := by decide +kernel
theorem dX11_drawOfHundred_8 : decode cX11_drawOfHundred 8 = .ok (.bipush 100, 2) := by decide +kernel
theorem dX11_drawOfHundred_10 : decode cX11_drawOfHundred 10 = .ok (.irem, 1) := by decide +kernel
theorem dX11_drawOfHundred_11 : decode cX11_drawOfHundred 11 = .ok (.ireturn, 1) := by decide +kernel
theorem dX11_ofThousand_0 : decode cX11_ofThousand 0 = .ok (.lload_n 2, 1) := by decide +kernel
theorem dX11_ofThousand_1 : decode cX11_ofThousand 1 = .ok (.lconst 0, 1) := by decide +kernel
theorem dX11_ofThousand_2 : decode cX11_ofThousand 2 = .ok (.lcmp, 1) := by decide +kernel
theorem dX11_ofThousand_3 : decode cX11_ofThousand 3 = .ok (.ifCond .gt 5, 3) := by decide +kernel
theorem dX11_ofThousand_6 : decode cX11_ofThousand 6 = .ok (.iconst 0, 1) := by decide +kernel
theorem dX11_ofThousand_7 : decode cX11_ofThousand 7 = .ok (.ireturn, 1) := by decide +kernel
theorem dX11_ofThousand_8 : decode cX11_ofThousand 8 = .ok (.lload_n 0, 1) := by decide +kernel
theorem dX11_ofThousand_9 : decode cX11_ofThousand 9 = .ok (.lload_n 2, 1) := by decide +kernel
theorem dX11_ofThousand_10 : decode cX11_ofThousand 10 = .ok (.ldiv, 1) := by decide +kernel
theorem dX11_ofThousand_11 : decode cX11_ofThousand 11 = .ok (.lstore 4, 2) := by decide +kernel
theorem dX11_ofThousand_13 : decode cX11_ofThousand 13 = .ok (.lload_n 0, 1) := by decide +kernel
theorem dX11_ofThousand_14 : decode cX11_ofThousand 14 = .ok (.lload_n 2, 1) := by decide +kernel
theorem dX11_ofThousand_15 : decode cX11_ofThousand 15 = .ok (.lrem, 1) := by decide +kernel
theorem dX11_ofThousand_16 : decode cX11_ofThousand 16 = .ok (.lstore 6, 2) := by decide +kernel
theorem dX11_ofThousand_18 : decode cX11_ofThousand 18 = .ok (.iconst 0, 1) := by decide +kernel
theorem dX11_ofThousand_19 : decode cX11_ofThousand 19 = .ok (.istore 8, 2) := by decide +kernel
theorem dX11_ofThousand_21 : decode cX11_ofThousand 21 = .ok (.iload 8, 2) := by decide +kernel
theorem dX11_ofThousand_23 : decode cX11_ofThousand 23 = .ok (.iconst 3, 1) := by decide +kernel
theorem dX11_ofThousand_24 : decode cX11_ofThousand 24 = .ok (.if_icmp .ge 36, 3) := by decide +kernel
theorem dX11_ofThousand_27 : decode cX11_ofThousand 27 = .ok (.lload 6, 2) := by decide +kernel
theorem dX11_ofThousand_29 : decode cX11_ofThousand 29 = .ok (.ldc2_w 403, 3) := by decide +kernel
theorem dX11_ofThousand_32 : decode cX11_ofThousand 32 = .ok (.lmul, 1) := by decide +kernel
theorem dX11_ofThousand_33 : decode cX11_ofThousand 33 = .ok (.lstore 6, 2) := by decide +kernel
theorem dX11_ofThousand_35 : decode cX11_ofThousand 35 = .ok (.lload 4, 2) := by decide +kernel
theorem dX11_ofThousand_37 : decode cX11_ofThousand 37 = .ok (.ldc2_w 403, 3) := by decide +kernel
theorem dX11_ofThousand_40 : decode cX11_ofThousand 40 = .ok (.lmul, 1) := by decide +kernel
theorem dX11_ofThousand_41 : decode cX11_ofThousand 41 = .ok (.lload 6, 2) := by decide +kernel
theorem dX11_ofThousand_43 : decode cX11_ofThousand 43 = .ok (.lload_n 2, 1) := by decide +kernel
theorem dX11_ofThousand_44 : decode cX11_ofThousand 44 = .ok (.ldiv, 1) := by decide +kernel
theorem dX11_ofThousand_45 : decode cX11_ofThousand 45 = .ok (.ladd, 1) := by decide +kernel
theorem dX11_ofThousand_46 : decode cX11_ofThousand 46 = .ok (.lstore 4, 2) := by decide +kernel
theorem dX11_ofThousand_48 : decode cX11_ofThousand 48 = .ok (.lload 6, 2) := by decide +kernel
theorem dX11_ofThousand_50 : decode cX11_ofThousand 50 = .ok (.lload_n 2, 1) := by decide +kernel
theorem dX11_ofThousand_51 : decode cX11_ofThousand 51 = .ok (.lrem, 1) := by decide +kernel
theorem dX11_ofThousand_52 : decode cX11_ofThousand 52 = .ok (.lstore 6, 2) := by decide +kernel
theorem dX11_ofThousand_54 : decode cX11_ofThousand 54 = .ok (.iinc 8 1, 3) := by decide +kernel
theorem dX11_ofThousand_57 : decode cX11_ofThousand 57 = .ok (.goto (-36), 3) := by decide +kernel
theorem dX11_ofThousand_60 : decode cX11_ofThousand 60 = .ok (.lload 4, 2) := by decide +kernel
theorem dX11_ofThousand_62 : decode cX11_ofThousand 62 = .ok (.l2i, 1) := by decide +kernel
theorem dX11_ofThousand_63 : decode cX11_ofThousand 63 = .ok (.ireturn, 1) := by decide +kernel
theorem dX12_init_0 : decode cX12_init 0 = .ok (.aload_n 0, 1) := by decide +kernel
theorem dX12_init_1 : decode cX12_init 1 = .ok (.invokespecial 1, 3) := by decide +kernel
theorem dX12_init_4 : decode cX12_init 4 = .ok (.aload_n 0, 1) := by decide +kernel
theorem dX12_init_5 : decode cX12_init 5 = .ok (.bipush 48, 2) := by decide +kernel
theorem dX12_init_7 : decode cX12_init 7 = .ok (.putfield 7, 3) := by decide +kernel
theorem dX12_init_10 : decode cX12_init 10 = .ok (.aload_n 0, 1) := by decide +kernel
theorem dX12_init_11 : decode cX12_init 11 = .ok (.iconst 3, 1) := by decide +kernel
theorem dX12_init_12 : decode cX12_init 12 = .ok (.putfield 13, 3) := by decide +kernel
theorem dX12_init_15 : decode cX12_init 15 = .ok (.aload_n 0, 1) := by decide +kernel
theorem dX12_init_16 : decode cX12_init 16 = .ok (.bipush 60, 2) := by decide +kernel
theorem dX12_init_18 : decode cX12_init 18 = .ok (.putfield 16, 3) := by decide +kernel
theorem dX12_init_21 : decode cX12_init 21 = .ok (.aload_n 0, 1) := by decide +kernel
theorem dX12_init_22 : decode cX12_init 22 = .ok (.bipush 90, 2) := by decide +kernel
theorem dX12_init_24 : decode cX12_init 24 = .ok (.putfield 19, 3) := by decide +kernel
theorem dX12_init_27 : decode cX12_init 27 = .ok (.aload_n 0, 1) := by decide +kernel
theorem dX12_init_28 : decode cX12_init 28 = .ok (.bipush 60, 2) := by decide +kernel
theorem dX12_init_30 : decode cX12_init 30 = .ok (.putfield 22, 3) := by decide +kernel
theorem dX12_init_33 : decode cX12_init 33 = .ok (.aload_n 0, 1) := by decide +kernel
theorem dX12_init_34 : decode cX12_init 34 = .ok (.bipush 30, 2) := by decide +kernel
theorem dX12_init_36 : decode cX12_init 36 = .ok (.putfield 25, 3) := by decide +kernel
theorem dX12_init_39 : decode cX12_init 39 = .ok (.aload_n 0, 1) := by decide +kernel
theorem dX12_init_40 : decode cX12_init 40 = .ok (.bipush 50, 2) := by decide +kernel
theorem dX12_init_42 : decode cX12_init 42 = .ok (.putfield 28, 3) := by decide +kernel
theorem dX12_init_45 : decode cX12_init 45 = .ok (.aload_n 0, 1) := by decide +kernel
theorem dX12_init_46 : decode cX12_init 46 = .ok (.iconst (-1), 1) := by decide +kernel
theorem dX12_init_47 : decode cX12_init 47 = .ok (.putfield 31, 3) := by decide +kernel
theorem dX12_init_50 : decode cX12_init 50 = .ok (.aload_n 0, 1) := by decide +kernel
theorem dX12_init_51 : decode cX12_init 51 = .ok (.iconst (-1), 1) := by decide +kernel
theorem dX12_init_52 : decode cX12_init 52 = .ok (.putfield 34, 3) := by decide +kernel
theorem dX12_init_55 : decode cX12_init 55 = .ok (.aload_n 0, 1) := by decide +kernel
theorem dX12_init_56 : decode cX12_init 56 = .ok (.bipush 24, 2) := by decide +kernel
theorem dX12_init_58 : decode cX12_init 58 = .ok (.newarray .int, 2) := by decide +kernel
theorem dX12_init_60 : decode cX12_init 60 = .ok (.putfield 37, 3) := by decide +kernel
theorem dX12_init_63 : decode cX12_init 63 = .ok (.aload_n 0, 1) := by decide +kernel
theorem dX12_init_64 : decode cX12_init 64 = .ok (.iconst 4, 1) := by decide +kernel
theorem dX12_init_65 : decode cX12_init 65 = .ok (.newarray .int, 2) := by decide +kernel
theorem dX12_init_67 : decode cX12_init 67 = .ok (.dup, 1) := by decide +kernel
theorem dX12_init_68 : decode cX12_init 68 = .ok (.iconst 0, 1) := by decide +kernel
theorem dX12_init_69 : decode cX12_init 69 = .ok (.iconst 5, 1) := by decide +kernel
theorem dX12_init_70 : decode cX12_init 70 = .ok (.iastore, 1) := by decide +kernel
theorem dX12_init_71 : decode cX12_init 71 = .ok (.dup, 1) := by decide +kernel
theorem dX12_init_72 : decode cX12_init 72 = .ok (.iconst 1, 1) := by decide +kernel
theorem dX12_init_73 : decode cX12_init 73 = .ok (.iconst 2, 1) := by decide +kernel
theorem dX12_init_74 : decode cX12_init 74 = .ok (.iastore, 1) := by decide +kernel
theorem dX12_init_75 : decode cX12_init 75 = .ok (.dup, 1) := by decide +kernel
theorem dX12_init_76 : decode cX12_init 76 = .ok (.iconst 2, 1) := by decide +kernel
theorem dX12_init_77 : decode cX12_init 77 = .ok (.iconst 1, 1) := by decide +kernel
theorem dX12_init_78 : decode cX12_init 78 = .ok (.iastore, 1) := by decide +kernel
theorem dX12_init_79 : decode cX12_init 79 = .ok (.dup, 1) := by decide +kernel
theorem dX12_init_80 : decode cX12_init 80 = .ok (.iconst 3, 1) := by decide +kernel
theorem dX12_init_81 : decode cX12_init 81 = .ok (.iconst 1, 1) := by decide +kernel
theorem dX12_init_82 : decode cX12_init 82 = .ok (.iastore, 1) := by decide +kernel
theorem dX12_init_83 : decode cX12_init 83 = .ok (.putfield 41, 3) := by decide +kernel
theorem dX12_init_86 : decode cX12_init 86 = .ok (.aload_n 0, 1) := by decide +kernel
theorem dX12_init_87 : decode cX12_init 87 = .ok (.bipush 12, 2) := by decide +kernel
theorem dX12_init_89 : decode cX12_init 89 = .ok (.newarray .int, 2) := by decide +kernel
theorem dX12_init_91 : decode cX12_init 91 = .ok (.putfield 44, 3) := by decide +kernel
theorem dX12_init_94 : decode cX12_init 94 = .ok (.aload_n 0, 1) := by decide +kernel
theorem dX12_init_95 : decode cX12_init 95 = .ok (.bipush 32, 2) := by decide +kernel
theorem dX12_init_97 : decode cX12_init 97 = .ok (.newarray .int, 2) := by decide +kernel
theorem dX12_init_99 : decode cX12_init 99 = .ok (.putfield 47, 3) := by decide +kernel
theorem dX12_init_102 : decode cX12_init 102 = .ok (.aload_n 0, 1) := by decide +kernel
theorem dX12_init_103 : decode cX12_init 103 = .ok (.sipush 1900, 3) := by decide +kernel
theorem dX12_init_106 : decode cX12_init 106 = .ok (.newarray .int, 2) := by decide +kernel
theorem dX12_init_108 : decode cX12_init 108 = .ok (.putfield 50, 3) := by decide +kernel
theorem dX12_init_111 : decode cX12_init 111 = .ok (.aload_n 0, 1) := by decide +kernel
theorem dX12_init_112 : decode cX12_init 112 = .ok (.sipush 700, 3) := by decide +kernel
theorem dX12_init_115 : decode cX12_init 115 = .ok (.newarray .int, 2) := by decide +kernel
theorem dX12_init_117 : decode cX12_init 117 = .ok (.putfield 53, 3) := by decide +kernel
theorem dX12_init_120 : decode cX12_init 120 = .ok (.aload_n 0, 1) := by decide +kernel
theorem dX12_init_121 : decode cX12_init 121 = .ok (.iconst (-1), 1) := by decide +kernel
theorem dX12_init_122 : decode cX12_init 122 = .ok (.putfield 56, 3) := by decide +kernel
theorem dX12_init_125 : decode cX12_init 125 = .ok (.aload_n 0, 1) := by decide +kernel
theorem dX12_init_126 : decode cX12_init 126 = .ok (.iconst 2, 1) := by decide +kernel
theorem dX12_init_127 : decode cX12_init 127 = .ok (.newarray .int, 2) := by decide +kernel
theorem dX12_init_129 : decode cX12_init 129 = .ok (.putfield 59, 3) := by decide +kernel
theorem dX12_init_132 : decode cX12_init 132 = .ok (.aload_n 0, 1) := by decide +kernel
theorem dX12_init_133 : decode cX12_init 133 = .ok (.bipush 24, 2) := by decide +kernel
theorem dX12_init_135 : decode cX12_init 135 = .ok (.newarray .int, 2) := by decide +kernel
theorem dX12_init_137 : decode cX12_init 137 = .ok (.putfield 62, 3) := by decide +kernel
theorem dX12_init_140 : decode cX12_init 140 = .ok (.aload_n 0, 1) := by decide +kernel
theorem dX12_init_141 : decode cX12_init 141 = .ok (.iconst 4, 1) := by decide +kernel
theorem dX12_init_142 : decode cX12_init 142 = .ok (.newarray .int, 2) := by decide +kernel
theorem dX12_init_144 : decode cX12_init 144 = .ok (.putfield 65, 3) := by decide +kernel
theorem dX12_init_147 : decode cX12_init 147 = .ok (.aload_n 0, 1) := by decide +kernel
theorem dX12_init_148 : decode cX12_init 148 = .ok (.bipush 12, 2) := by decide +kernel
theorem dX12_init_150 : decode cX12_init 150 = .ok (.newarray .int, 2) := by decide +kernel
theorem dX12_init_152 : decode cX12_init 152 = .ok (.putfield 68, 3) := by decide +kernel
theorem dX12_init_155 : decode cX12_init 155 = .ok (.aload_n 0, 1) := by decide +kernel
theorem dX12_init_156 : decode cX12_init 156 = .ok (.bipush 32, 2) := by decide +kernel
theorem dX12_init_158 : decode cX12_init 158 = .ok (.newarray .int, 2) := by decide +kernel
theorem dX12_init_160 : decode cX12_init 160 = .ok (.putfield 71, 3) := by decide +kernel
theorem dX12_init_163 : decode cX12_init 163 = .ok (.aload_n 0, 1) := by decide +kernel
theorem dX12_init_164 : decode cX12_init 164 = .ok (.sipush 1900, 3) := by decide +kernel
theorem dX12_init_167 : decode cX12_init 167 = .ok (.newarray .int, 2) := by decide +kernel
theorem dX12_init_169 : decode cX12_init 169 = .ok (.putfield 74, 3) := by decide +kernel
theorem dX12_init_172 : decode cX12_init 172 = .ok (.aload_n 0, 1) := by decide +kernel
theorem dX12_init_173 : decode cX12_init 173 = .ok (.sipush 950, 3) := by decide +kernel
theorem dX12_init_176 : decode cX12_init 176 = .ok (.newarray .int, 2) := by decide +kernel
theorem dX12_init_178 : decode cX12_init 178 = .ok (.putfield 77, 3) := by decide +kernel
theorem dX12_init_181 : decode cX12_init 181 = .ok (.aload_n 0, 1) := by decide +kernel
theorem dX12_init_182 : decode cX12_init 182 = .ok (.bipush 9, 2) := by decide +kernel
theorem dX12_init_184 : decode cX12_init 184 = .ok (.newarray .boolean, 2) := by decide +kernel
theorem dX12_init_186 : decode cX12_init 186 = .ok (.putfield 80, 3) := by decide +kernel
theorem dX12_init_189 : decode cX12_init 189 = .ok (.aload_n 0, 1) := by decide +kernel
theorem dX12_init_190 : decode cX12_init 190 = .ok (.sipush 336, 3) := by decide +kernel
theorem dX12_init_193 : decode cX12_init 193 = .ok (.newarray .long, 2) := by decide +kernel
theorem dX12_init_195 : decode cX12_init 195 = .ok (.putfield 84, 3) := by decide +kernel
theorem dX12_init_198 : decode cX12_init 198 = .ok (.aload_n 0, 1) := by decide +kernel
theorem dX12_init_199 : decode cX12_init 199 = .ok (.sipush 13440, 3) := by decide +kernel
theorem dX12_init_202 : decode cX12_init 202 = .ok (.newarray .long, 2) := by decide +kernel
theorem dX12_init_204 : decode cX12_init 204 = .ok (.putfield 88, 3) := by decide +kernel
theorem dX12_init_207 : decode cX12_init 207 = .ok (.aload_n 0, 1) := by decide +kernel
theorem dX12_init_208 : decode cX12_init 208 = .ok (.bipush 120, 2) := by decide +kernel
theorem dX12_init_210 : decode cX12_init 210 = .ok (.newarray .int, 2) := by decide +kernel
theorem dX12_init_212 : decode cX12_init 212 = .ok (.putfield 91, 3) := by decide +kernel
theorem dX12_init_215 : decode cX12_init 215 = .ok (.aload_n 0, 1) := by decide +kernel
theorem dX12_init_216 : decode cX12_init 216 = .ok (.bipush 9, 2) := by decide +kernel
theorem dX12_init_218 : decode cX12_init 218 = .ok (.newarray .int, 2) := by decide +kernel
theorem dX12_init_220 : decode cX12_init 220 = .ok (.putfield 94, 3) := by decide +kernel
theorem dX12_init_223 : decode cX12_init 223 = .ok (.aload_n 0, 1) := by decide +kernel
theorem dX12_init_224 : decode cX12_init 224 = .ok (.sipush 950, 3) := by decide +kernel
theorem dX12_init_227 : decode cX12_init 227 = .ok (.newarray .int, 2) := by decide +kernel
theorem dX12_init_229 : decode cX12_init 229 = .ok (.putfield 97, 3) := by decide +kernel
theorem dX12_init_232 : decode cX12_init 232 = .ok (.aload_n 0, 1) := by decide +kernel
theorem dX12_init_233 : decode cX12_init 233 = .ok (.sipush 336, 3) := by decide +kernel
theorem dX12_init_236 : decode cX12_init 236 = .ok (.newarray .long, 2) := by decide +kernel
theorem dX12_init_238 : decode cX12_init 238 = .ok (.putfield 100, 3) := by decide +kernel
theorem dX12_init_241 : decode cX12_init 241 = .ok (.aload_n 0, 1) := by decide +kernel
theorem dX12_init_242 : decode cX12_init 242 = .ok (.bipush 84, 2) := by decide +kernel
theorem dX12_init_244 : decode cX12_init 244 = .ok (.newarray .long, 2) := by decide +kernel
theorem dX12_init_246 : decode cX12_init 246 = .ok (.putfield 103, 3) := by decide +kernel
theorem dX12_init_249 : decode cX12_init 249 = .ok (.aload_n 0, 1) := by decide +kernel
theorem dX12_init_250 : decode cX12_init 250 = .ok (.bipush 84, 2) := by decide +kernel
theorem dX12_init_252 : decode cX12_init 252 = .ok (.newarray .int, 2) := by decide +kernel
theorem dX12_init_254 : decode cX12_init 254 = .ok (.putfield 106, 3) := by decide +kernel
theorem dX12_init_257 : decode cX12_init 257 = .ok (.aload_n 0, 1) := by decide +kernel
theorem dX12_init_258 : decode cX12_init 258 = .ok (.iconst 4, 1) := by decide +kernel
theorem dX12_init_259 : decode cX12_init 259 = .ok (.newarray .long, 2) := by decide +kernel
theorem dX12_init_261 : decode cX12_init 261 = .ok (.putfield 109, 3) := by decide +kernel
theorem dX12_init_264 : decode cX12_init 264 = .ok (.aload_n 0, 1) := by decide +kernel
theorem dX12_init_265 : decode cX12_init 265 = .ok (.bipush 6, 2) := by decide +kernel
theorem dX12_init_267 : decode cX12_init 267 = .ok (.newarray .int, 2) := by decide +kernel
theorem dX12_init_269 : decode cX12_init 269 = .ok (.putfield 112, 3) := by decide +kernel
theorem dX12_init_272 : decode cX12_init 272 = .ok (.aload_n 0, 1) := by decide +kernel
theorem dX12_init_273 : decode cX12_init 273 = .ok (.sipush 336, 3) := by decide +kernel
theorem dX12_init_276 : decode cX12_init 276 = .ok (.newarray .long, 2) := by decide +kernel
theorem dX12_init_278 : decode cX12_init 278 = .ok (.putfield 115, 3) := by decide +kernel
theorem dX12_init_281 : decode cX12_init 281 = .ok (.aload_n 0, 1) := by decide +kernel
theorem dX12_init_282 : decode cX12_init 282 = .ok (.sipush 13440, 3) := by decide +kernel
theorem dX12_init_285 : decode cX12_init 285 = .ok (.newarray .long, 2) := by decide +kernel
theorem dX12_init_287 : decode cX12_init 287 = .ok (.putfield 118, 3) := by decide +kernel
theorem dX12_init_290 : decode cX12_init 290 = .ok (.aload_n 0, 1) := by decide +kernel
theorem dX12_init_291 : decode cX12_init 291 = .ok (.bipush 120, 2) := by decide +kernel
theorem dX12_init_293 : decode cX12_init 293 = .ok (.newarray .int, 2) := by decide +kernel
theorem dX12_init_295 : decode cX12_init 295 = .ok (.putfield 121, 3) := by decide +kernel
theorem dX12_init_298 : decode cX12_init 298 = .ok (.aload_n 0, 1) := by decide +kernel
theorem dX12_init_299 : decode cX12_init 299 = .ok (.invokevirtual 124, 3) := by decide +kernel
theorem dX12_init_302 : decode cX12_init 302 = .ok (.return_, 1) := by decide +kernel
