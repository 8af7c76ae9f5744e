theorem dX12_reckons_0 : decode cX12_reckons 0 = .ok (.iconst 0, 1) := by decide +kernel
theorem dX12_reckons_1 : decode cX12_reckons 1 = .ok (.istore_n 2, 1) := by decide +kernel
theorem dX12_reckons_2 : decode cX12_reckons 2 = .ok (.iload_n 1, 1) := by decide +kernel
theorem dX12_reckons_3 : decode cX12_reckons 3 = .ok (.istore_n 3, 1) := by decide +kernel
theorem dX12_reckons_4 : decode cX12_reckons 4 = .ok (.aload_n 0, 1) := by decide +kernel
theorem dX12_reckons_5 : decode cX12_reckons 5 = .ok (.getfield 50, 3) := by decide +kernel
theorem dX12_reckons_8 : decode cX12_reckons 8 = .ok (.iload_n 3, 1) := by decide +kernel
theorem dX12_reckons_9 : decode cX12_reckons 9 = .ok (.iaload, 1) := by decide +kernel
theorem dX12_reckons_10 : decode cX12_reckons 10 = .ok (.ifCond .eq 133, 3) := by decide +kernel
theorem dX12_reckons_13 : decode cX12_reckons 13 = .ok (.aload_n 0, 1) := by decide +kernel
theorem dX12_reckons_14 : decode cX12_reckons 14 = .ok (.getfield 50, 3) := by decide +kernel
theorem dX12_reckons_17 : decode cX12_reckons 17 = .ok (.iload_n 3, 1) := by decide +kernel
theorem dX12_reckons_18 : decode cX12_reckons 18 = .ok (.iaload, 1) := by decide +kernel
theorem dX12_reckons_19 : decode cX12_reckons 19 = .ok (.istore 4, 2) := by decide +kernel
theorem dX12_reckons_21 : decode cX12_reckons 21 = .ok (.iinc 3 1, 3) := by decide +kernel
theorem dX12_reckons_24 : decode cX12_reckons 24 = .ok (.iload 4, 2) := by decide +kernel
theorem dX12_reckons_26 : decode cX12_reckons 26 = .ok (.iconst 1, 1) := by decide +kernel
theorem dX12_reckons_27 : decode cX12_reckons 27 = .ok (.if_icmp .eq 9, 3) := by decide +kernel
theorem dX12_reckons_30 : decode cX12_reckons 30 = .ok (.iload 4, 2) := by decide +kernel
theorem dX12_reckons_32 : decode cX12_reckons 32 = .ok (.iconst 2, 1) := by decide +kernel
theorem dX12_reckons_33 : decode cX12_reckons 33 = .ok (.if_icmp .ne 44, 3) := by decide +kernel
theorem dX12_reckons_36 : decode cX12_reckons 36 = .ok (.aload_n 0, 1) := by decide +kernel
theorem dX12_reckons_37 : decode cX12_reckons 37 = .ok (.getfield 97, 3) := by decide +kernel
theorem dX12_reckons_40 : decode cX12_reckons 40 = .ok (.iload_n 2, 1) := by decide +kernel
theorem dX12_reckons_41 : decode cX12_reckons 41 = .ok (.iload 4, 2) := by decide +kernel
theorem dX12_reckons_43 : decode cX12_reckons 43 = .ok (.iconst 1, 1) := by decide +kernel
theorem dX12_reckons_44 : decode cX12_reckons 44 = .ok (.if_icmp .ne 12, 3) := by decide +kernel
theorem dX12_reckons_47 : decode cX12_reckons 47 = .ok (.aload_n 0, 1) := by decide +kernel
theorem dX12_reckons_48 : decode cX12_reckons 48 = .ok (.getfield 50, 3) := by decide +kernel
theorem dX12_reckons_51 : decode cX12_reckons 51 = .ok (.iload_n 3, 1) := by decide +kernel
theorem dX12_reckons_52 : decode cX12_reckons 52 = .ok (.iaload, 1) := by decide +kernel
theorem dX12_reckons_53 : decode cX12_reckons 53 = .ok (.goto 14, 3) := by decide +kernel
theorem dX12_reckons_56 : decode cX12_reckons 56 = .ok (.aload_n 0, 1) := by decide +kernel
theorem dX12_reckons_57 : decode cX12_reckons 57 = .ok (.getfield 94, 3) := by decide +kernel
theorem dX12_reckons_60 : decode cX12_reckons 60 = .ok (.aload_n 0, 1) := by decide +kernel
theorem dX12_reckons_61 : decode cX12_reckons 61 = .ok (.getfield 50, 3) := by decide +kernel
theorem dX12_reckons_64 : decode cX12_reckons 64 = .ok (.iload_n 3, 1) := by decide +kernel
theorem dX12_reckons_65 : decode cX12_reckons 65 = .ok (.iaload, 1) := by decide +kernel
theorem dX12_reckons_66 : decode cX12_reckons 66 = .ok (.iaload, 1) := by decide +kernel
theorem dX12_reckons_67 : decode cX12_reckons 67 = .ok (.iastore, 1) := by decide +kernel
theorem dX12_reckons_68 : decode cX12_reckons 68 = .ok (.iinc 3 1, 3) := by decide +kernel
theorem dX12_reckons_71 : decode cX12_reckons 71 = .ok (.iinc 2 1, 3) := by decide +kernel
theorem dX12_reckons_74 : decode cX12_reckons 74 = .ok (.goto 66, 3) := by decide +kernel
theorem dX12_reckons_77 : decode cX12_reckons 77 = .ok (.iload 4, 2) := by decide +kernel
theorem dX12_reckons_79 : decode cX12_reckons 79 = .ok (.iconst 3, 1) := by decide +kernel
theorem dX12_reckons_80 : decode cX12_reckons 80 = .ok (.if_icmp .ne 30, 3) := by decide +kernel
theorem dX12_reckons_83 : decode cX12_reckons 83 = .ok (.aload_n 0, 1) := by decide +kernel
theorem dX12_reckons_84 : decode cX12_reckons 84 = .ok (.getfield 97, 3) := by decide +kernel
theorem dX12_reckons_87 : decode cX12_reckons 87 = .ok (.iload_n 2, 1) := by decide +kernel
theorem dX12_reckons_88 : decode cX12_reckons 88 = .ok (.iconst 1, 1) := by decide +kernel
theorem dX12_reckons_89 : decode cX12_reckons 89 = .ok (.isub, 1) := by decide +kernel
theorem dX12_reckons_90 : decode cX12_reckons 90 = .ok (.aload_n 0, 1) := by decide +kernel
theorem dX12_reckons_91 : decode cX12_reckons 91 = .ok (.getfield 97, 3) := by decide +kernel
theorem dX12_reckons_94 : decode cX12_reckons 94 = .ok (.iload_n 2, 1) := by decide +kernel
theorem dX12_reckons_95 : decode cX12_reckons 95 = .ok (.iconst 1, 1) := by decide +kernel
theorem dX12_reckons_96 : decode cX12_reckons 96 = .ok (.isub, 1) := by decide +kernel
theorem dX12_reckons_97 : decode cX12_reckons 97 = .ok (.iaload, 1) := by decide +kernel
theorem dX12_reckons_98 : decode cX12_reckons 98 = .ok (.ifCond .ne 7, 3) := by decide +kernel
theorem dX12_reckons_101 : decode cX12_reckons 101 = .ok (.iconst 1, 1) := by decide +kernel
theorem dX12_reckons_102 : decode cX12_reckons 102 = .ok (.goto 4, 3) := by decide +kernel
theorem dX12_reckons_105 : decode cX12_reckons 105 = .ok (.iconst 0, 1) := by decide +kernel
theorem dX12_reckons_106 : decode cX12_reckons 106 = .ok (.iastore, 1) := by decide +kernel
theorem dX12_reckons_107 : decode cX12_reckons 107 = .ok (.goto 33, 3) := by decide +kernel
theorem dX12_reckons_110 : decode cX12_reckons 110 = .ok (.iinc 2 (-1), 3) := by decide +kernel
theorem dX12_reckons_113 : decode cX12_reckons 113 = .ok (.aload_n 0, 1) := by decide +kernel
theorem dX12_reckons_114 : decode cX12_reckons 114 = .ok (.getfield 97, 3) := by decide +kernel
theorem dX12_reckons_117 : decode cX12_reckons 117 = .ok (.iload_n 2, 1) := by decide +kernel
theorem dX12_reckons_118 : decode cX12_reckons 118 = .ok (.iconst 1, 1) := by decide +kernel
theorem dX12_reckons_119 : decode cX12_reckons 119 = .ok (.isub, 1) := by decide +kernel
theorem dX12_reckons_120 : decode cX12_reckons 120 = .ok (.iload 4, 2) := by decide +kernel
theorem dX12_reckons_122 : decode cX12_reckons 122 = .ok (.aload_n 0, 1) := by decide +kernel
theorem dX12_reckons_123 : decode cX12_reckons 123 = .ok (.getfield 97, 3) := by decide +kernel
theorem dX12_reckons_126 : decode cX12_reckons 126 = .ok (.iload_n 2, 1) := by decide +kernel
theorem dX12_reckons_127 : decode cX12_reckons 127 = .ok (.iconst 1, 1) := by decide +kernel
theorem dX12_reckons_128 : decode cX12_reckons 128 = .ok (.isub, 1) := by decide +kernel
theorem dX12_reckons_129 : decode cX12_reckons 129 = .ok (.iaload, 1) := by decide +kernel
theorem dX12_reckons_130 : decode cX12_reckons 130 = .ok (.aload_n 0, 1) := by decide +kernel
theorem dX12_reckons_131 : decode cX12_reckons 131 = .ok (.getfield 97, 3) := by decide +kernel
theorem dX12_reckons_134 : decode cX12_reckons 134 = .ok (.iload_n 2, 1) := by decide +kernel
theorem dX12_reckons_135 : decode cX12_reckons 135 = .ok (.iaload, 1) := by decide +kernel
theorem dX12_reckons_136 : decode cX12_reckons 136 = .ok (.invokestatic 379, 3) := by decide +kernel
theorem dX12_reckons_139 : decode cX12_reckons 139 = .ok (.iastore, 1) := by decide +kernel
theorem dX12_reckons_140 : decode cX12_reckons 140 = .ok (.goto (-136), 3) := by decide +kernel
theorem dX12_reckons_143 : decode cX12_reckons 143 = .ok (.aload_n 0, 1) := by decide +kernel
theorem dX12_reckons_144 : decode cX12_reckons 144 = .ok (.getfield 97, 3) := by decide +kernel
theorem dX12_reckons_147 : decode cX12_reckons 147 = .ok (.iconst 0, 1) := by decide +kernel
theorem dX12_reckons_148 : decode cX12_reckons 148 = .ok (.iaload, 1) := by decide +kernel
theorem dX12_reckons_149 : decode cX12_reckons 149 = .ok (.ireturn, 1) := by decide +kernel
theorem dX12_kept_0 : decode cX12_kept 0 = .ok (.iload_n 0, 1) := by decide +kernel
theorem dX12_kept_1 : decode cX12_kept 1 = .ok (.ifCond .ge 7, 3) := by decide +kernel
theorem dX12_kept_4 : decode cX12_kept 4 = .ok (.iconst 0, 1) := by decide +kernel
theorem dX12_kept_5 : decode cX12_kept 5 = .ok (.goto 13, 3) := by decide +kernel
theorem dX12_kept_8 : decode cX12_kept 8 = .ok (.iload_n 0, 1) := by decide +kernel
theorem dX12_kept_9 : decode cX12_kept 9 = .ok (.iload_n 1, 1) := by decide +kernel
theorem dX12_kept_10 : decode cX12_kept 10 = .ok (.if_icmp .le 7, 3) := by decide +kernel
theorem dX12_kept_13 : decode cX12_kept 13 = .ok (.iload_n 1, 1) := by decide +kernel
theorem dX12_kept_14 : decode cX12_kept 14 = .ok (.goto 4, 3) := by decide +kernel
theorem dX12_kept_17 : decode cX12_kept 17 = .ok (.iload_n 0, 1) := by decide +kernel
theorem dX12_kept_18 : decode cX12_kept 18 = .ok (.ireturn, 1) := by decide +kernel
theorem dX12_apart_0 : decode cX12_apart 0 = .ok (.iload_n 1, 1) := by decide +kernel
theorem dX12_apart_1 : decode cX12_apart 1 = .ok (.iload_n 2, 1) := by decide +kernel
theorem dX12_apart_2 : decode cX12_apart 2 = .ok (.if_icmp .ge 9, 3) := by decide +kernel
theorem dX12_apart_5 : decode cX12_apart 5 = .ok (.iload_n 2, 1) := by decide +kernel
theorem dX12_apart_6 : decode cX12_apart 6 = .ok (.iload_n 1, 1) := by decide +kernel
theorem dX12_apart_7 : decode cX12_apart 7 = .ok (.isub, 1) := by decide +kernel
theorem dX12_apart_8 : decode cX12_apart 8 = .ok (.goto 6, 3) := by decide +kernel
theorem dX12_apart_11 : decode cX12_apart 11 = .ok (.iload_n 1, 1) := by decide +kernel
theorem dX12_apart_12 : decode cX12_apart 12 = .ok (.iload_n 2, 1) := by decide +kernel
theorem dX12_apart_13 : decode cX12_apart 13 = .ok (.isub, 1) := by decide +kernel
theorem dX12_apart_14 : decode cX12_apart 14 = .ok (.istore_n 3, 1) := by decide +kernel
theorem dX12_apart_15 : decode cX12_apart 15 = .ok (.iload_n 3, 1) := by decide +kernel
theorem dX12_apart_16 : decode cX12_apart 16 = .ok (.aload_n 0, 1) := by decide +kernel
theorem dX12_apart_17 : decode cX12_apart 17 = .ok (.getfield 7, 3) := by decide +kernel
theorem dX12_apart_20 : decode cX12_apart 20 = .ok (.iload_n 3, 1) := by decide +kernel
theorem dX12_apart_21 : decode cX12_apart 21 = .ok (.isub, 1) := by decide +kernel
theorem dX12_apart_22 : decode cX12_apart 22 = .ok (.if_icmp .ge 7, 3) := by decide +kernel
theorem dX12_apart_25 : decode cX12_apart 25 = .ok (.iload_n 3, 1) := by decide +kernel
theorem dX12_apart_26 : decode cX12_apart 26 = .ok (.goto 9, 3) := by decide +kernel
theorem dX12_apart_29 : decode cX12_apart 29 = .ok (.aload_n 0, 1) := by decide +kernel
theorem dX12_apart_30 : decode cX12_apart 30 = .ok (.getfield 7, 3) := by decide +kernel
theorem dX12_apart_33 : decode cX12_apart 33 = .ok (.iload_n 3, 1) := by decide +kernel
theorem dX12_apart_34 : decode cX12_apart 34 = .ok (.isub, 1) := by decide +kernel
theorem dX12_apart_35 : decode cX12_apart 35 = .ok (.ireturn, 1) := by decide +kernel
theorem dX12_isLeaking_0 : decode cX12_isLeaking 0 = .ok (.aload_n 0, 1) := by decide +kernel
theorem dX12_isLeaking_1 : decode cX12_isLeaking 1 = .ok (.getfield 368, 3) := by decide +kernel
theorem dX12_isLeaking_4 : decode cX12_isLeaking 4 = .ok (.iload_n 1, 1) := by decide +kernel
theorem dX12_isLeaking_5 : decode cX12_isLeaking 5 = .ok (.ishr, 1) := by decide +kernel
theorem dX12_isLeaking_6 : decode cX12_isLeaking 6 = .ok (.iconst 1, 1) := by decide +kernel
theorem dX12_isLeaking_7 : decode cX12_isLeaking 7 = .ok (.iand, 1) := by decide +kernel
theorem dX12_isLeaking_8 : decode cX12_isLeaking 8 = .ok (.ifCond .ne 24, 3) := by decide +kernel
theorem dX12_isLeaking_11 : decode cX12_isLeaking 11 = .ok (.iload_n 2, 1) := by decide +kernel
theorem dX12_isLeaking_12 : decode cX12_isLeaking 12 = .ok (.ifCond .ne 16, 3) := by decide +kernel
theorem dX12_isLeaking_15 : decode cX12_isLeaking 15 = .ok (.aload_n 0, 1) := by decide +kernel
theorem dX12_isLeaking_16 : decode cX12_isLeaking 16 = .ok (.getfield 37, 3) := by decide +kernel
theorem dX12_isLeaking_19 : decode cX12_isLeaking 19 = .ok (.iconst 4, 1) := by decide +kernel
theorem dX12_isLeaking_20 : decode cX12_isLeaking 20 = .ok (.iload_n 1, 1) := by decide +kernel
theorem dX12_isLeaking_21 : decode cX12_isLeaking 21 = .ok (.imul, 1) := by decide +kernel
theorem dX12_isLeaking_22 : decode cX12_isLeaking 22 = .ok (.iconst 3, 1) := by decide +kernel
theorem dX12_isLeaking_23 : decode cX12_isLeaking 23 = .ok (.iadd, 1) := by decide +kernel
theorem dX12_isLeaking_24 : decode cX12_isLeaking 24 = .ok (.iaload, 1) := by decide +kernel
theorem dX12_isLeaking_25 : decode cX12_isLeaking 25 = .ok (.ifCond .ne 7, 3) := by decide +kernel
theorem dX12_isLeaking_28 : decode cX12_isLeaking 28 = .ok (.iconst 1, 1) := by decide +kernel
theorem dX12_isLeaking_29 : decode cX12_isLeaking 29 = .ok (.goto 4, 3) := by decide +kernel
theorem dX12_isLeaking_32 : decode cX12_isLeaking 32 = .ok (.iconst 0, 1) := by decide +kernel
theorem dX12_isLeaking_33 : decode cX12_isLeaking 33 = .ok (.ireturn, 1) := by decide +kernel
theorem dX12_leakOf_0 : decode cX12_leakOf 0 = .ok (.aload_n 0, 1) := by decide +kernel
theorem dX12_leakOf_1 : decode cX12_leakOf 1 = .ok (.getfield 37, 3) := by decide +kernel
theorem dX12_leakOf_4 : decode cX12_leakOf 4 = .ok (.iconst 4, 1) := by decide +kernel
theorem dX12_leakOf_5 : decode cX12_leakOf 5 = .ok (.iload_n 1, 1) := by decide +kernel
theorem dX12_leakOf_6 : decode cX12_leakOf 6 = .ok (.imul, 1) := by decide +kernel
theorem dX12_leakOf_7 : decode cX12_leakOf 7 = .ok (.iconst 2, 1) := by decide +kernel
theorem dX12_leakOf_8 : decode cX12_leakOf 8 = .ok (.iadd, 1) := by decide +kernel
theorem dX12_leakOf_9 : decode cX12_leakOf 9 = .ok (.iaload, 1) := by decide +kernel
theorem dX12_leakOf_10 : decode cX12_leakOf 10 = .ok (.istore 5, 2) := by decide +kernel
theorem dX12_leakOf_12 : decode cX12_leakOf 12 = .ok (.aload_n 0, 1) := by decide +kernel
theorem dX12_leakOf_13 : decode cX12_leakOf 13 = .ok (.getfield 31, 3) := by decide +kernel
theorem dX12_leakOf_16 : decode cX12_leakOf 16 = .ok (.iconst (-1), 1) := by decide +kernel
theorem dX12_leakOf_17 : decode cX12_leakOf 17 = .ok (.if_icmp .ne 18, 3) := by decide +kernel
theorem dX12_leakOf_20 : decode cX12_leakOf 20 = .ok (.iload 5, 2) := by decide +kernel
theorem dX12_leakOf_22 : decode cX12_leakOf 22 = .ok (.iload_n 2, 1) := by decide +kernel
theorem dX12_leakOf_23 : decode cX12_leakOf 23 = .ok (.sipush 1000, 3) := by decide +kernel
theorem dX12_leakOf_26 : decode cX12_leakOf 26 = .ok (.idiv, 1) := by decide +kernel
theorem dX12_leakOf_27 : decode cX12_leakOf 27 = .ok (.imul, 1) := by decide +kernel
theorem dX12_leakOf_28 : decode cX12_leakOf 28 = .ok (.ldc_w 383, 3) := by decide +kernel
theorem dX12_leakOf_31 : decode cX12_leakOf 31 = .ok (.invokestatic 384, 3) := by decide +kernel
theorem dX12_leakOf_34 : decode cX12_leakOf 34 = .ok (.ireturn, 1) := by decide +kernel
theorem dX12_leakOf_35 : decode cX12_leakOf 35 = .ok (.aload_n 0, 1) := by decide +kernel
theorem dX12_leakOf_36 : decode cX12_leakOf 36 = .ok (.getfield 94, 3) := by decide +kernel
theorem dX12_leakOf_39 : decode cX12_leakOf 39 = .ok (.iconst 0, 1) := by decide +kernel
theorem dX12_leakOf_40 : decode cX12_leakOf 40 = .ok (.iload 5, 2) := by decide +kernel
theorem dX12_leakOf_42 : decode cX12_leakOf 42 = .ok (.iastore, 1) := by decide +kernel
theorem dX12_leakOf_43 : decode cX12_leakOf 43 = .ok (.aload_n 0, 1) := by decide +kernel
theorem dX12_leakOf_44 : decode cX12_leakOf 44 = .ok (.getfield 94, 3) := by decide +kernel
theorem dX12_leakOf_47 : decode cX12_leakOf 47 = .ok (.iconst 1, 1) := by decide +kernel
theorem dX12_leakOf_48 : decode cX12_leakOf 48 = .ok (.aload_n 0, 1) := by decide +kernel
theorem dX12_leakOf_49 : decode cX12_leakOf 49 = .ok (.getfield 37, 3) := by decide +kernel
theorem dX12_leakOf_52 : decode cX12_leakOf 52 = .ok (.iconst 4, 1) := by decide +kernel
theorem dX12_leakOf_53 : decode cX12_leakOf 53 = .ok (.iload_n 1, 1) := by decide +kernel
theorem dX12_leakOf_54 : decode cX12_leakOf 54 = .ok (.imul, 1) := by decide +kernel
theorem dX12_leakOf_55 : decode cX12_leakOf 55 = .ok (.iconst 1, 1) := by decide +kernel
theorem dX12_leakOf_56 : decode cX12_leakOf 56 = .ok (.iadd, 1) := by decide +kernel
theorem dX12_leakOf_57 : decode cX12_leakOf 57 = .ok (.iaload, 1) := by decide +kernel
theorem dX12_leakOf_58 : decode cX12_leakOf 58 = .ok (.iastore, 1) := by decide +kernel
theorem dX12_leakOf_59 : decode cX12_leakOf 59 = .ok (.aload_n 0, 1) := by decide +kernel
theorem dX12_leakOf_60 : decode cX12_leakOf 60 = .ok (.getfield 94, 3) := by decide +kernel
theorem dX12_leakOf_63 : decode cX12_leakOf 63 = .ok (.iconst 4, 1) := by decide +kernel
theorem dX12_leakOf_64 : decode cX12_leakOf 64 = .ok (.iload_n 2, 1) := by decide +kernel
theorem dX12_leakOf_65 : decode cX12_leakOf 65 = .ok (.sipush 1000, 3) := by decide +kernel
theorem dX12_leakOf_68 : decode cX12_leakOf 68 = .ok (.idiv, 1) := by decide +kernel
theorem dX12_leakOf_69 : decode cX12_leakOf 69 = .ok (.iastore, 1) := by decide +kernel
theorem dX12_leakOf_70 : decode cX12_leakOf 70 = .ok (.aload_n 0, 1) := by decide +kernel
theorem dX12_leakOf_71 : decode cX12_leakOf 71 = .ok (.getfield 94, 3) := by decide +kernel
theorem dX12_leakOf_74 : decode cX12_leakOf 74 = .ok (.iconst 2, 1) := by decide +kernel
theorem dX12_leakOf_75 : decode cX12_leakOf 75 = .ok (.iload_n 3, 1) := by decide +kernel
theorem dX12_leakOf_76 : decode cX12_leakOf 76 = .ok (.iastore, 1) := by decide +kernel
theorem dX12_leakOf_77 : decode cX12_leakOf 77 = .ok (.aload_n 0, 1) := by decide +kernel
theorem dX12_leakOf_78 : decode cX12_leakOf 78 = .ok (.getfield 94, 3) := by decide +kernel
theorem dX12_leakOf_81 : decode cX12_leakOf 81 = .ok (.iconst 3, 1) := by decide +kernel
theorem dX12_leakOf_82 : decode cX12_leakOf 82 = .ok (.iload 4, 2) := by decide +kernel
theorem dX12_leakOf_84 : decode cX12_leakOf 84 = .ok (.ifCond .eq 7, 3) := by decide +kernel
theorem dX12_leakOf_87 : decode cX12_leakOf 87 = .ok (.iconst 1, 1) := by decide +kernel
theorem dX12_leakOf_88 : decode cX12_leakOf 88 = .ok (.goto 4, 3) := by decide +kernel
theorem dX12_leakOf_91 : decode cX12_leakOf 91 = .ok (.iconst 0, 1) := by decide +kernel
theorem dX12_leakOf_92 : decode cX12_leakOf 92 = .ok (.iastore, 1) := by decide +kernel
theorem dX12_leakOf_93 : decode cX12_leakOf 93 = .ok (.aload_n 0, 1) := by decide +kernel
theorem dX12_leakOf_94 : decode cX12_leakOf 94 = .ok (.aload_n 0, 1) := by decide +kernel
theorem dX12_leakOf_95 : decode cX12_leakOf 95 = .ok (.getfield 31, 3) := by decide +kernel
theorem dX12_leakOf_98 : decode cX12_leakOf 98 = .ok (.invokevirtual 387, 3) := by decide +kernel
theorem dX12_leakOf_101 : decode cX12_leakOf 101 = .ok (.ldc_w 383, 3) := by decide +kernel
theorem dX12_leakOf_104 : decode cX12_leakOf 104 = .ok (.invokestatic 384, 3) := by decide +kernel
theorem dX12_leakOf_107 : decode cX12_leakOf 107 = .ok (.ireturn, 1) := by decide +kernel
theorem dX12_leakers_0 : decode cX12_leakers 0 = .ok (.iconst 0, 1) := by decide +kernel
theorem dX12_leakers_1 : decode cX12_leakers 1 = .ok (.istore_n 2, 1) := by decide +kernel
theorem dX12_leakers_2 : decode cX12_leakers 2 = .ok (.iconst 0, 1) := by decide +kernel
theorem dX12_leakers_3 : decode cX12_leakers 3 = .ok (.istore_n 3, 1) := by decide +kernel
theorem dX12_leakers_4 : decode cX12_leakers 4 = .ok (.iload_n 3, 1) := by decide +kernel
theorem dX12_leakers_5 : decode cX12_leakers 5 = .ok (.aload_n 0, 1) := by decide +kernel
theorem dX12_leakers_6 : decode cX12_leakers 6 = .ok (.getfield 329, 3) := by decide +kernel
theorem dX12_leakers_9 : decode cX12_leakers 9 = .ok (.if_icmp .ge 28, 3) := by decide +kernel
theorem dX12_leakers_12 : decode cX12_leakers 12 = .ok (.iload_n 2, 1) := by decide +kernel
theorem dX12_leakers_13 : decode cX12_leakers 13 = .ok (.aload_n 0, 1) := by decide +kernel
theorem dX12_leakers_14 : decode cX12_leakers 14 = .ok (.iload_n 3, 1) := by decide +kernel
theorem dX12_leakers_15 : decode cX12_leakers 15 = .ok (.iload_n 1, 1) := by decide +kernel
theorem dX12_leakers_16 : decode cX12_leakers 16 = .ok (.invokevirtual 390, 3) := by decide +kernel
theorem dX12_leakers_19 : decode cX12_leakers 19 = .ok (.ifCond .eq 9, 3) := by decide +kernel
theorem dX12_leakers_22 : decode cX12_leakers 22 = .ok (.iconst 1, 1) := by decide +kernel
theorem dX12_leakers_23 : decode cX12_leakers 23 = .ok (.iload_n 3, 1) := by decide +kernel
theorem dX12_leakers_24 : decode cX12_leakers 24 = .ok (.ishl, 1) := by decide +kernel
theorem dX12_leakers_25 : decode cX12_leakers 25 = .ok (.goto 4, 3) := by decide +kernel
theorem dX12_leakers_28 : decode cX12_leakers 28 = .ok (.iconst 0, 1) := by decide +kernel
theorem dX12_leakers_29 : decode cX12_leakers 29 = .ok (.ior, 1) := by decide +kernel
theorem dX12_leakers_30 : decode cX12_leakers 30 = .ok (.istore_n 2, 1) := by decide +kernel
theorem dX12_leakers_31 : decode cX12_leakers 31 = .ok (.iinc 3 1, 3) := by decide +kernel
theorem dX12_leakers_34 : decode cX12_leakers 34 = .ok (.goto (-30), 3) := by decide +kernel
theorem dX12_leakers_37 : decode cX12_leakers 37 = .ok (.iload_n 2, 1) := by decide +kernel
theorem dX12_leakers_38 : decode cX12_leakers 38 = .ok (.ireturn, 1) := by decide +kernel
theorem dX12_goneBy_0 : decode cX12_goneBy 0 = .ok (.iconst 0, 1) := by decide +kernel
theorem dX12_goneBy_1 : decode cX12_goneBy 1 = .ok (.istore 5, 2) := by decide +kernel
theorem dX12_goneBy_3 : decode cX12_goneBy 3 = .ok (.iconst 0, 1) := by decide +kernel
theorem dX12_goneBy_4 : decode cX12_goneBy 4 = .ok (.istore 6, 2) := by decide +kernel
theorem dX12_goneBy_6 : decode cX12_goneBy 6 = .ok (.iload 6, 2) := by decide +kernel
theorem dX12_goneBy_8 : decode cX12_goneBy 8 = .ok (.aload_n 0, 1) := by decide +kernel
theorem dX12_goneBy_9 : decode cX12_goneBy 9 = .ok (.getfield 329, 3) := by decide +kernel
theorem dX12_goneBy_12 : decode cX12_goneBy 12 = .ok (.if_icmp .ge 38, 3) := by decide +kernel
theorem dX12_goneBy_15 : decode cX12_goneBy 15 = .ok (.iload 5, 2) := by decide +kernel
theorem dX12_goneBy_17 : decode cX12_goneBy 17 = .ok (.iload_n 1, 1) := by decide +kernel
theorem dX12_goneBy_18 : decode cX12_goneBy 18 = .ok (.iload 6, 2) := by decide +kernel
theorem dX12_goneBy_20 : decode cX12_goneBy 20 = .ok (.ishr, 1) := by decide +kernel
theorem dX12_goneBy_21 : decode cX12_goneBy 21 = .ok (.iconst 1, 1) := by decide +kernel
theorem dX12_goneBy_22 : decode cX12_goneBy 22 = .ok (.iand, 1) := by decide +kernel
theorem dX12_goneBy_23 : decode cX12_goneBy 23 = .ok (.iconst 1, 1) := by decide +kernel
theorem dX12_goneBy_24 : decode cX12_goneBy 24 = .ok (.if_icmp .ne 16, 3) := by decide +kernel
theorem dX12_goneBy_27 : decode cX12_goneBy 27 = .ok (.aload_n 0, 1) := by decide +kernel
theorem dX12_goneBy_28 : decode cX12_goneBy 28 = .ok (.iload 6, 2) := by decide +kernel
theorem dX12_goneBy_30 : decode cX12_goneBy 30 = .ok (.iload_n 2, 1) := by decide +kernel
theorem dX12_goneBy_31 : decode cX12_goneBy 31 = .ok (.iload_n 3, 1) := by decide +kernel
theorem dX12_goneBy_32 : decode cX12_goneBy 32 = .ok (.iload 4, 2) := by decide +kernel
theorem dX12_goneBy_34 : decode cX12_goneBy 34 = .ok (.invokevirtual 394, 3) := by decide +kernel
theorem dX12_goneBy_37 : decode cX12_goneBy 37 = .ok (.goto 4, 3) := by decide +kernel
theorem dX12_goneBy_40 : decode cX12_goneBy 40 = .ok (.iconst 0, 1) := by decide +kernel
theorem dX12_goneBy_41 : decode cX12_goneBy 41 = .ok (.iadd, 1) := by decide +kernel
theorem dX12_goneBy_42 : decode cX12_goneBy 42 = .ok (.istore 5, 2) := by decide +kernel
theorem dX12_goneBy_44 : decode cX12_goneBy 44 = .ok (.iinc 6 1, 3) := by decide +kernel
theorem dX12_goneBy_47 : decode cX12_goneBy 47 = .ok (.goto (-41), 3) := by decide +kernel
theorem dX12_goneBy_50 : decode cX12_goneBy 50 = .ok (.iload 5, 2) := by decide +kernel
theorem dX12_goneBy_52 : decode cX12_goneBy 52 = .ok (.iload_n 2, 1) := by decide +kernel
theorem dX12_goneBy_53 : decode cX12_goneBy 53 = .ok (.if_icmp .ge 8, 3) := by decide +kernel
theorem dX12_goneBy_56 : decode cX12_goneBy 56 = .ok (.iload 5, 2) := by decide +kernel
theorem dX12_goneBy_58 : decode cX12_goneBy 58 = .ok (.goto 4, 3) := by decide +kernel
theorem dX12_goneBy_61 : decode cX12_goneBy 61 = .ok (.iload_n 2, 1) := by decide +kernel
theorem dX12_goneBy_62 : decode cX12_goneBy 62 = .ok (.ireturn, 1) := by decide +kernel
theorem dX12_leak_0 : decode cX12_leak 0 = .ok (.aload_n 0, 1) := by decide +kernel
theorem dX12_leak_1 : decode cX12_leak 1 = .ok (.iconst 0, 1) := by decide +kernel
theorem dX12_leak_2 : decode cX12_leak 2 = .ok (.putfield 127, 3) := by decide +kernel
theorem dX12_leak_5 : decode cX12_leak 5 = .ok (.aload_n 0, 1) := by decide +kernel
theorem dX12_leak_6 : decode cX12_leak 6 = .ok (.aload_n 0, 1) := by decide +kernel
theorem dX12_leak_7 : decode cX12_leak 7 = .ok (.iload_n 1, 1) := by decide +kernel
theorem dX12_leak_8 : decode cX12_leak 8 = .ok (.invokevirtual 398, 3) := by decide +kernel
theorem dX12_leak_11 : decode cX12_leak 11 = .ok (.aload_n 0, 1) := by decide +kernel
theorem dX12_leak_12 : decode cX12_leak 12 = .ok (.getfield 352, 3) := by decide +kernel
theorem dX12_leak_15 : decode cX12_leak 15 = .ok (.aload_n 0, 1) := by decide +kernel
theorem dX12_leak_16 : decode cX12_leak 16 = .ok (.getfield 355, 3) := by decide +kernel
theorem dX12_leak_19 : decode cX12_leak 19 = .ok (.iload_n 1, 1) := by decide +kernel
theorem dX12_leak_20 : decode cX12_leak 20 = .ok (.invokevirtual 402, 3) := by decide +kernel
theorem dX12_leak_23 : decode cX12_leak 23 = .ok (.ireturn, 1) := by decide +kernel
theorem dX12_minutes_0 : decode cX12_minutes 0 = .ok (.aload_n 0, 1) := by decide +kernel
theorem dX12_minutes_1 : decode cX12_minutes 1 = .ok (.iconst 0, 1) := by decide +kernel
theorem dX12_minutes_2 : decode cX12_minutes 2 = .ok (.putfield 127, 3) := by decide +kernel
theorem dX12_minutes_5 : decode cX12_minutes 5 = .ok (.iload_n 1, 1) := by decide +kernel
theorem dX12_minutes_6 : decode cX12_minutes 6 = .ok (.iconst 1, 1) := by decide +kernel
theorem dX12_minutes_7 : decode cX12_minutes 7 = .ok (.sipush 600, 3) := by decide +kernel
theorem dX12_minutes_10 : decode cX12_minutes 10 = .ok (.invokestatic 348, 3) := by decide +kernel
theorem dX12_minutes_13 : decode cX12_minutes 13 = .ok (.ifCond .ne 8, 3) := by decide +kernel
theorem dX12_minutes_16 : decode cX12_minutes 16 = .ok (.aload_n 0, 1) := by decide +kernel
theorem dX12_minutes_17 : decode cX12_minutes 17 = .ok (.invokevirtual 405, 3) := by decide +kernel
theorem dX12_minutes_20 : decode cX12_minutes 20 = .ok (.ireturn, 1) := by decide +kernel
theorem dX12_minutes_21 : decode cX12_minutes 21 = .ok (.aload_n 0, 1) := by decide +kernel
theorem dX12_minutes_22 : decode cX12_minutes 22 = .ok (.invokevirtual 408, 3) := by decide +kernel
theorem dX12_minutes_25 : decode cX12_minutes 25 = .ok (.iconst 0, 1) := by decide +kernel
theorem dX12_minutes_26 : decode cX12_minutes 26 = .ok (.istore_n 3, 1) := by decide +kernel
theorem dX12_minutes_27 : decode cX12_minutes 27 = .ok (.iload_n 3, 1) := by decide +kernel
theorem dX12_minutes_28 : decode cX12_minutes 28 = .ok (.iload_n 1, 1) := by decide +kernel
theorem dX12_minutes_29 : decode cX12_minutes 29 = .ok (.if_icmp .ge 46, 3) := by decide +kernel
theorem dX12_minutes_32 : decode cX12_minutes 32 = .ok (.aload_n 0, 1) := by decide +kernel
theorem dX12_minutes_33 : decode cX12_minutes 33 = .ok (.dup, 1) := by decide +kernel
theorem dX12_minutes_34 : decode cX12_minutes 34 = .ok (.getfield 352, 3) := by decide +kernel
theorem dX12_minutes_37 : decode cX12_minutes 37 = .ok (.aload_n 0, 1) := by decide +kernel
theorem dX12_minutes_38 : decode cX12_minutes 38 = .ok (.aload_n 0, 1) := by decide +kernel
theorem dX12_minutes_39 : decode cX12_minutes 39 = .ok (.iload_n 2, 1) := by decide +kernel
theorem dX12_minutes_40 : decode cX12_minutes 40 = .ok (.invokevirtual 398, 3) := by decide +kernel
theorem dX12_minutes_43 : decode cX12_minutes 43 = .ok (.aload_n 0, 1) := by decide +kernel
theorem dX12_minutes_44 : decode cX12_minutes 44 = .ok (.getfield 352, 3) := by decide +kernel
theorem dX12_minutes_47 : decode cX12_minutes 47 = .ok (.aload_n 0, 1) := by decide +kernel
theorem dX12_minutes_48 : decode cX12_minutes 48 = .ok (.getfield 355, 3) := by decide +kernel
theorem dX12_minutes_51 : decode cX12_minutes 51 = .ok (.iload_n 2, 1) := by decide +kernel
theorem dX12_minutes_52 : decode cX12_minutes 52 = .ok (.invokevirtual 402, 3) := by decide +kernel
theorem dX12_minutes_55 : decode cX12_minutes 55 = .ok (.isub, 1) := by decide +kernel
theorem dX12_minutes_56 : decode cX12_minutes 56 = .ok (.putfield 352, 3) := by decide +kernel
theorem dX12_minutes_59 : decode cX12_minutes 59 = .ok (.aload_n 0, 1) := by decide +kernel
theorem dX12_minutes_60 : decode cX12_minutes 60 = .ok (.dup, 1) := by decide +kernel
theorem dX12_minutes_61 : decode cX12_minutes 61 = .ok (.getfield 355, 3) := by decide +kernel
theorem dX12_minutes_64 : decode cX12_minutes 64 = .ok (.iconst 1, 1) := by decide +kernel
theorem dX12_minutes_65 : decode cX12_minutes 65 = .ok (.iadd, 1) := by decide +kernel
theorem dX12_minutes_66 : decode cX12_minutes 66 = .ok (.putfield 355, 3) := by decide +kernel
theorem dX12_minutes_69 : decode cX12_minutes 69 = .ok (.iinc 3 1, 3) := by decide +kernel
theorem dX12_minutes_72 : decode cX12_minutes 72 = .ok (.goto (-45), 3) := by decide +kernel
theorem dX12_minutes_75 : decode cX12_minutes 75 = .ok (.aload_n 0, 1) := by decide +kernel
theorem dX12_minutes_76 : decode cX12_minutes 76 = .ok (.getfield 352, 3) := by decide +kernel
theorem dX12_minutes_79 : decode cX12_minutes 79 = .ok (.ireturn, 1) := by decide +kernel
theorem dX12_pump_0 : decode cX12_pump 0 = .ok (.aload_n 0, 1) := by decide +kernel
theorem dX12_pump_1 : decode cX12_pump 1 = .ok (.iconst 0, 1) := by decide +kernel
theorem dX12_pump_2 : decode cX12_pump 2 = .ok (.putfield 127, 3) := by decide +kernel
theorem dX12_pump_5 : decode cX12_pump 5 = .ok (.aload_n 0, 1) := by decide +kernel
theorem dX12_pump_6 : decode cX12_pump 6 = .ok (.invokevirtual 408, 3) := by decide +kernel
theorem dX12_pump_9 : decode cX12_pump 9 = .ok (.aload_n 0, 1) := by decide +kernel
theorem dX12_pump_10 : decode cX12_pump 10 = .ok (.getfield 352, 3) := by decide +kernel
theorem dX12_pump_13 : decode cX12_pump 13 = .ok (.istore_n 1, 1) := by decide +kernel
theorem dX12_pump_14 : decode cX12_pump 14 = .ok (.aload_n 0, 1) := by decide +kernel
theorem dX12_pump_15 : decode cX12_pump 15 = .ok (.sipush 1000, 3) := by decide +kernel
theorem dX12_pump_18 : decode cX12_pump 18 = .ok (.aload_n 0, 1) := by decide +kernel
theorem dX12_pump_19 : decode cX12_pump 19 = .ok (.getfield 22, 3) := by decide +kernel
theorem dX12_pump_22 : decode cX12_pump 22 = .ok (.imul, 1) := by decide +kernel
theorem dX12_pump_23 : decode cX12_pump 23 = .ok (.putfield 352, 3) := by decide +kernel
theorem dX12_pump_26 : decode cX12_pump 26 = .ok (.iload_n 1, 1) := by decide +kernel
theorem dX12_pump_27 : decode cX12_pump 27 = .ok (.ireturn, 1) := by decide +kernel
theorem dX12_flatBy_0 : decode cX12_flatBy 0 = .ok (.aload_n 0, 1) := by decide +kernel
theorem dX12_flatBy_1 : decode cX12_flatBy 1 = .ok (.getfield 352, 3) := by decide +kernel
theorem dX12_flatBy_4 : decode cX12_flatBy 4 = .ok (.istore_n 3, 1) := by decide +kernel
theorem dX12_flatBy_5 : decode cX12_flatBy 5 = .ok (.iconst 0, 1) := by decide +kernel
theorem dX12_flatBy_6 : decode cX12_flatBy 6 = .ok (.istore 4, 2) := by decide +kernel
theorem dX12_flatBy_8 : decode cX12_flatBy 8 = .ok (.iload 4, 2) := by decide +kernel
theorem dX12_flatBy_10 : decode cX12_flatBy 10 = .ok (.sipush 2000, 3) := by decide +kernel
theorem dX12_flatBy_13 : decode cX12_flatBy 13 = .ok (.if_icmp .gt 36, 3) := by decide +kernel
theorem dX12_flatBy_16 : decode cX12_flatBy 16 = .ok (.iload_n 3, 1) := by decide +kernel
theorem dX12_flatBy_17 : decode cX12_flatBy 17 = .ok (.sipush 10000, 3) := by decide +kernel
theorem dX12_flatBy_20 : decode cX12_flatBy 20 = .ok (.if_icmp .ge 6, 3) := by decide +kernel
theorem dX12_flatBy_23 : decode cX12_flatBy 23 = .ok (.iload 4, 2) := by decide +kernel
theorem dX12_flatBy_25 : decode cX12_flatBy 25 = .ok (.ireturn, 1) := by decide +kernel
theorem dX12_flatBy_26 : decode cX12_flatBy 26 = .ok (.iload_n 3, 1) := by decide +kernel
theorem dX12_flatBy_27 : decode cX12_flatBy 27 = .ok (.aload_n 0, 1) := by decide +kernel
theorem dX12_flatBy_28 : decode cX12_flatBy 28 = .ok (.iload_n 1, 1) := by decide +kernel
theorem dX12_flatBy_29 : decode cX12_flatBy 29 = .ok (.iload_n 3, 1) := by decide +kernel
theorem dX12_flatBy_30 : decode cX12_flatBy 30 = .ok (.aload_n 0, 1) := by decide +kernel
theorem dX12_flatBy_31 : decode cX12_flatBy 31 = .ok (.getfield 355, 3) := by decide +kernel
theorem dX12_flatBy_34 : decode cX12_flatBy 34 = .ok (.iload 4, 2) := by decide +kernel
theorem dX12_flatBy_36 : decode cX12_flatBy 36 = .ok (.iadd, 1) := by decide +kernel
theorem dX12_flatBy_37 : decode cX12_flatBy 37 = .ok (.iload_n 2, 1) := by decide +kernel
theorem dX12_flatBy_38 : decode cX12_flatBy 38 = .ok (.invokevirtual 402, 3) := by decide +kernel
theorem dX12_flatBy_41 : decode cX12_flatBy 41 = .ok (.isub, 1) := by decide +kernel
theorem dX12_flatBy_42 : decode cX12_flatBy 42 = .ok (.istore_n 3, 1) := by decide +kernel
theorem dX12_flatBy_43 : decode cX12_flatBy 43 = .ok (.iinc 4 1, 3) := by decide +kernel
theorem dX12_flatBy_46 : decode cX12_flatBy 46 = .ok (.goto (-38), 3) := by decide +kernel
theorem dX12_flatBy_49 : decode cX12_flatBy 49 = .ok (.iconst (-1), 1) := by decide +kernel
theorem dX12_flatBy_50 : decode cX12_flatBy 50 = .ok (.ireturn, 1) := by decide +kernel
theorem dX12_flat_0 : decode cX12_flat 0 = .ok (.aload_n 0, 1) := by decide +kernel
theorem dX12_flat_1 : decode cX12_flat 1 = .ok (.iconst 0, 1) := by decide +kernel
theorem dX12_flat_2 : decode cX12_flat 2 = .ok (.putfield 127, 3) := by decide +kernel
theorem dX12_flat_5 : decode cX12_flat 5 = .ok (.aload_n 0, 1) := by decide +kernel
theorem dX12_flat_6 : decode cX12_flat 6 = .ok (.aload_n 0, 1) := by decide +kernel
theorem dX12_flat_7 : decode cX12_flat 7 = .ok (.iload_n 1, 1) := by decide +kernel
theorem dX12_flat_8 : decode cX12_flat 8 = .ok (.invokevirtual 398, 3) := by decide +kernel
theorem dX12_flat_11 : decode cX12_flat 11 = .ok (.iload_n 1, 1) := by decide +kernel
theorem dX12_flat_12 : decode cX12_flat 12 = .ok (.invokevirtual 411, 3) := by decide +kernel
theorem dX12_flat_15 : decode cX12_flat 15 = .ok (.ireturn, 1) := by decide +kernel
theorem dX12_flatIf_0 : decode cX12_flatIf 0 = .ok (.aload_n 0, 1) := by decide +kernel
theorem dX12_flatIf_1 : decode cX12_flatIf 1 = .ok (.iconst 0, 1) := by decide +kernel
theorem dX12_flatIf_2 : decode cX12_flatIf 2 = .ok (.putfield 127, 3) := by decide +kernel
theorem dX12_flatIf_5 : decode cX12_flatIf 5 = .ok (.aload_n 0, 1) := by decide +kernel
theorem dX12_flatIf_6 : decode cX12_flatIf 6 = .ok (.iload_n 1, 1) := by decide +kernel
theorem dX12_flatIf_7 : decode cX12_flatIf 7 = .ok (.ifCond .lt 17, 3) := by decide +kernel
theorem dX12_flatIf_10 : decode cX12_flatIf 10 = .ok (.iload_n 1, 1) := by decide +kernel
theorem dX12_flatIf_11 : decode cX12_flatIf 11 = .ok (.iconst 1, 1) := by decide +kernel
theorem dX12_flatIf_12 : decode cX12_flatIf 12 = .ok (.aload_n 0, 1) := by decide +kernel
theorem dX12_flatIf_13 : decode cX12_flatIf 13 = .ok (.getfield 329, 3) := by decide +kernel
theorem dX12_flatIf_16 : decode cX12_flatIf 16 = .ok (.ishl, 1) := by decide +kernel
theorem dX12_flatIf_17 : decode cX12_flatIf 17 = .ok (.if_icmp .ge 7, 3) := by decide +kernel
theorem dX12_flatIf_20 : decode cX12_flatIf 20 = .ok (.iconst 1, 1) := by decide +kernel
theorem dX12_flatIf_21 : decode cX12_flatIf 21 = .ok (.goto 4, 3) := by decide +kernel
theorem dX12_flatIf_24 : decode cX12_flatIf 24 = .ok (.iconst 0, 1) := by decide +kernel
theorem dX12_flatIf_25 : decode cX12_flatIf 25 = .ok (.iconst 1, 1) := by decide +kernel
theorem dX12_flatIf_26 : decode cX12_flatIf 26 = .ok (.invokevirtual 316, 3) := by decide +kernel
theorem dX12_flatIf_29 : decode cX12_flatIf 29 = .ok (.ifCond .eq 12, 3) := by decide +kernel
theorem dX12_flatIf_32 : decode cX12_flatIf 32 = .ok (.aload_n 0, 1) := by decide +kernel
theorem dX12_flatIf_33 : decode cX12_flatIf 33 = .ok (.iload_n 1, 1) := by decide +kernel
theorem dX12_flatIf_34 : decode cX12_flatIf 34 = .ok (.iload_n 2, 1) := by decide +kernel
theorem dX12_flatIf_35 : decode cX12_flatIf 35 = .ok (.invokevirtual 411, 3) := by decide +kernel
theorem dX12_flatIf_38 : decode cX12_flatIf 38 = .ok (.goto 4, 3) := by decide +kernel
theorem dX12_flatIf_41 : decode cX12_flatIf 41 = .ok (.iconst 0, 1) := by decide +kernel
theorem dX12_flatIf_42 : decode cX12_flatIf 42 = .ok (.ireturn, 1) := by decide +kernel
theorem dX12_which_0 : decode cX12_which 0 = .ok (.aload_n 0, 1) := by decide +kernel
theorem dX12_which_1 : decode cX12_which 1 = .ok (.iconst 0, 1) := by decide +kernel
theorem dX12_which_2 : decode cX12_which 2 = .ok (.putfield 127, 3) := by decide +kernel
theorem dX12_which_5 : decode cX12_which 5 = .ok (.aload_n 0, 1) := by decide +kernel
theorem dX12_which_6 : decode cX12_which 6 = .ok (.iload_n 3, 1) := by decide +kernel
theorem dX12_which_7 : decode cX12_which 7 = .ok (.iconst 1, 1) := by decide +kernel
theorem dX12_which_8 : decode cX12_which 8 = .ok (.invokevirtual 364, 3) := by decide +kernel
theorem dX12_which_11 : decode cX12_which 11 = .ok (.ifCond .ne 5, 3) := by decide +kernel
theorem dX12_which_14 : decode cX12_which 14 = .ok (.iconst 0, 1) := by decide +kernel
theorem dX12_which_15 : decode cX12_which 15 = .ok (.ireturn, 1) := by decide +kernel
theorem dX12_which_16 : decode cX12_which 16 = .ok (.iconst 0, 1) := by decide +kernel
theorem dX12_which_17 : decode cX12_which 17 = .ok (.istore 4, 2) := by decide +kernel
theorem dX12_which_19 : decode cX12_which 19 = .ok (.iconst (-1), 1) := by decide +kernel
theorem dX12_which_20 : decode cX12_which 20 = .ok (.istore 5, 2) := by decide +kernel
theorem dX12_which_22 : decode cX12_which 22 = .ok (.iconst 1, 1) := by decide +kernel
theorem dX12_which_23 : decode cX12_which 23 = .ok (.aload_n 0, 1) := by decide +kernel
theorem dX12_which_24 : decode cX12_which 24 = .ok (.getfield 329, 3) := by decide +kernel
theorem dX12_which_27 : decode cX12_which 27 = .ok (.ishl, 1) := by decide +kernel
theorem dX12_which_28 : decode cX12_which 28 = .ok (.iconst 1, 1) := by decide +kernel
theorem dX12_which_29 : decode cX12_which 29 = .ok (.isub, 1) := by decide +kernel
theorem dX12_which_30 : decode cX12_which 30 = .ok (.istore 6, 2) := by decide +kernel
theorem dX12_which_32 : decode cX12_which 32 = .ok (.iload 6, 2) := by decide +kernel
theorem dX12_which_34 : decode cX12_which 34 = .ok (.ifCond .lt 38, 3) := by decide +kernel
theorem dX12_which_37 : decode cX12_which 37 = .ok (.aload_n 0, 1) := by decide +kernel
theorem dX12_which_38 : decode cX12_which 38 = .ok (.iload 6, 2) := by decide +kernel
theorem dX12_which_40 : decode cX12_which 40 = .ok (.aload_n 0, 1) := by decide +kernel
theorem dX12_which_41 : decode cX12_which 41 = .ok (.getfield 352, 3) := by decide +kernel
theorem dX12_which_44 : decode cX12_which 44 = .ok (.aload_n 0, 1) := by decide +kernel
theorem dX12_which_45 : decode cX12_which 45 = .ok (.getfield 355, 3) := by decide +kernel
theorem dX12_which_48 : decode cX12_which 48 = .ok (.iload_n 2, 1) := by decide +kernel
theorem dX12_which_49 : decode cX12_which 49 = .ok (.invokevirtual 402, 3) := by decide +kernel
theorem dX12_which_52 : decode cX12_which 52 = .ok (.iload_n 1, 1) := by decide +kernel
theorem dX12_which_53 : decode cX12_which 53 = .ok (.if_icmp .eq 6, 3) := by decide +kernel
theorem dX12_which_56 : decode cX12_which 56 = .ok (.goto 10, 3) := by decide +kernel
theorem dX12_which_59 : decode cX12_which 59 = .ok (.iinc 4 1, 3) := by decide +kernel
theorem dX12_which_62 : decode cX12_which 62 = .ok (.iload 6, 2) := by decide +kernel
theorem dX12_which_64 : decode cX12_which 64 = .ok (.istore 5, 2) := by decide +kernel
theorem dX12_which_66 : decode cX12_which 66 = .ok (.iinc 6 (-1), 3) := by decide +kernel
theorem dX12_which_69 : decode cX12_which 69 = .ok (.goto (-37), 3) := by decide +kernel
theorem dX12_which_72 : decode cX12_which 72 = .ok (.iload_n 3, 1) := by decide +kernel
theorem dX12_which_73 : decode cX12_which 73 = .ok (.ifCond .ne 8, 3) := by decide +kernel
theorem dX12_which_76 : decode cX12_which 76 = .ok (.iload 4, 2) := by decide +kernel
theorem dX12_which_78 : decode cX12_which 78 = .ok (.goto 5, 3) := by decide +kernel
theorem dX12_which_81 : decode cX12_which 81 = .ok (.iload 5, 2) := by decide +kernel
theorem dX12_which_83 : decode cX12_which 83 = .ok (.ireturn, 1) := by decide +kernel
theorem dX12_copiesWeights_0 : decode cX12_copiesWeights 0 = .ok (.iconst 0, 1) := by decide +kernel
theorem dX12_copiesWeights_1 : decode cX12_copiesWeights 1 = .ok (.istore_n 1, 1) := by decide +kernel
theorem dX12_copiesWeights_2 : decode cX12_copiesWeights 2 = .ok (.iload_n 1, 1) := by decide +kernel
theorem dX12_copiesWeights_3 : decode cX12_copiesWeights 3 = .ok (.sipush 336, 3) := by decide +kernel
theorem dX12_copiesWeights_6 : decode cX12_copiesWeights 6 = .ok (.if_icmp .ge 21, 3) := by decide +kernel
theorem dX12_copiesWeights_9 : decode cX12_copiesWeights 9 = .ok (.aload_n 0, 1) := by decide +kernel
theorem dX12_copiesWeights_10 : decode cX12_copiesWeights 10 = .ok (.getfield 100, 3) := by decide +kernel
theorem dX12_copiesWeights_13 : decode cX12_copiesWeights 13 = .ok (.iload_n 1, 1) := by decide +kernel
theorem dX12_copiesWeights_14 : decode cX12_copiesWeights 14 = .ok (.aload_n 0, 1) := by decide +kernel
theorem dX12_copiesWeights_15 : decode cX12_copiesWeights 15 = .ok (.getfield 84, 3) := by decide +kernel
theorem dX12_copiesWeights_18 : decode cX12_copiesWeights 18 = .ok (.iload_n 1, 1) := by decide +kernel
theorem dX12_copiesWeights_19 : decode cX12_copiesWeights 19 = .ok (.laload, 1) := by decide +kernel
theorem dX12_copiesWeights_20 : decode cX12_copiesWeights 20 = .ok (.lastore, 1) := by decide +kernel
theorem dX12_copiesWeights_21 : decode cX12_copiesWeights 21 = .ok (.iinc 1 1, 3) := by decide +kernel
theorem dX12_copiesWeights_24 : decode cX12_copiesWeights 24 = .ok (.goto (-22), 3) := by decide +kernel
theorem dX12_copiesWeights_27 : decode cX12_copiesWeights 27 = .ok (.return_, 1) := by decide +kernel
theorem dX12_isLooked_0 : decode cX12_isLooked 0 = .ok (.iload_n 1, 1) := by decide +kernel
theorem dX12_isLooked_1 : decode cX12_isLooked 1 = .ok (.iload_n 2, 1) := by decide +kernel
theorem dX12_isLooked_2 : decode cX12_isLooked 2 = .ok (.isub, 1) := by decide +kernel
theorem dX12_isLooked_3 : decode cX12_isLooked 3 = .ok (.istore_n 3, 1) := by decide +kernel
theorem dX12_isLooked_4 : decode cX12_isLooked 4 = .ok (.iload_n 3, 1) := by decide +kernel
theorem dX12_isLooked_5 : decode cX12_isLooked 5 = .ok (.ifCond .ge 10, 3) := by decide +kernel
theorem dX12_isLooked_8 : decode cX12_isLooked 8 = .ok (.iload_n 3, 1) := by decide +kernel
theorem dX12_isLooked_9 : decode cX12_isLooked 9 = .ok (.aload_n 0, 1) := by decide +kernel
theorem dX12_isLooked_10 : decode cX12_isLooked 10 = .ok (.getfield 7, 3) := by decide +kernel
theorem dX12_isLooked_13 : decode cX12_isLooked 13 = .ok (.iadd, 1) := by decide +kernel
theorem dX12_isLooked_14 : decode cX12_isLooked 14 = .ok (.istore_n 3, 1) := by decide +kernel
theorem dX12_isLooked_15 : decode cX12_isLooked 15 = .ok (.iload_n 3, 1) := by decide +kernel
theorem dX12_isLooked_16 : decode cX12_isLooked 16 = .ok (.aload_n 0, 1) := by decide +kernel
theorem dX12_isLooked_17 : decode cX12_isLooked 17 = .ok (.getfield 13, 3) := by decide +kernel
theorem dX12_isLooked_20 : decode cX12_isLooked 20 = .ok (.if_icmp .ge 7, 3) := by decide +kernel
theorem dX12_isLooked_23 : decode cX12_isLooked 23 = .ok (.iconst 1, 1) := by decide +kernel
theorem dX12_isLooked_24 : decode cX12_isLooked 24 = .ok (.goto 4, 3) := by decide +kernel
theorem dX12_isLooked_27 : decode cX12_isLooked 27 = .ok (.iconst 0, 1) := by decide +kernel
theorem dX12_isLooked_28 : decode cX12_isLooked 28 = .ok (.ireturn, 1) := by decide +kernel
theorem dX12_dips_0 : decode cX12_dips 0 = .ok (.iconst 0, 1) := by decide +kernel
theorem dX12_dips_1 : decode cX12_dips 1 = .ok (.istore_n 3, 1) := by decide +kernel
theorem dX12_dips_2 : decode cX12_dips 2 = .ok (.iload_n 3, 1) := by decide +kernel
theorem dX12_dips_3 : decode cX12_dips 3 = .ok (.iconst 4, 1) := by decide +kernel
theorem dX12_dips_4 : decode cX12_dips 4 = .ok (.aload_n 0, 1) := by decide +kernel
theorem dX12_dips_5 : decode cX12_dips 5 = .ok (.getfield 7, 3) := by decide +kernel
theorem dX12_dips_8 : decode cX12_dips 8 = .ok (.imul, 1) := by decide +kernel
theorem dX12_dips_9 : decode cX12_dips 9 = .ok (.if_icmp .ge 36, 3) := by decide +kernel
theorem dX12_dips_12 : decode cX12_dips 12 = .ok (.aload_n 0, 1) := by decide +kernel
theorem dX12_dips_13 : decode cX12_dips 13 = .ok (.iload_n 3, 1) := by decide +kernel
theorem dX12_dips_14 : decode cX12_dips 14 = .ok (.iconst 4, 1) := by decide +kernel
theorem dX12_dips_15 : decode cX12_dips 15 = .ok (.idiv, 1) := by decide +kernel
theorem dX12_dips_16 : decode cX12_dips 16 = .ok (.iload_n 2, 1) := by decide +kernel
theorem dX12_dips_17 : decode cX12_dips 17 = .ok (.invokevirtual 415, 3) := by decide +kernel
theorem dX12_dips_20 : decode cX12_dips 20 = .ok (.ifCond .eq 19, 3) := by decide +kernel
theorem dX12_dips_23 : decode cX12_dips 23 = .ok (.aload_n 1, 1) := by decide +kernel
theorem dX12_dips_24 : decode cX12_dips 24 = .ok (.iload_n 3, 1) := by decide +kernel
theorem dX12_dips_25 : decode cX12_dips 25 = .ok (.aload_n 1, 1) := by decide +kernel
theorem dX12_dips_26 : decode cX12_dips 26 = .ok (.iload_n 3, 1) := by decide +kernel
theorem dX12_dips_27 : decode cX12_dips 27 = .ok (.laload, 1) := by decide +kernel
theorem dX12_dips_28 : decode cX12_dips 28 = .ok (.aload_n 0, 1) := by decide +kernel
theorem dX12_dips_29 : decode cX12_dips 29 = .ok (.getfield 16, 3) := by decide +kernel
theorem dX12_dips_32 : decode cX12_dips 32 = .ok (.i2l, 1) := by decide +kernel
theorem dX12_dips_33 : decode cX12_dips 33 = .ok (.lmul, 1) := by decide +kernel
theorem dX12_dips_34 : decode cX12_dips 34 = .ok (.ldc2_w 418, 3) := by decide +kernel
theorem dX12_dips_37 : decode cX12_dips 37 = .ok (.ldiv, 1) := by decide +kernel
theorem dX12_dips_38 : decode cX12_dips 38 = .ok (.lastore, 1) := by decide +kernel
theorem dX12_dips_39 : decode cX12_dips 39 = .ok (.iinc 3 1, 3) := by decide +kernel
theorem dX12_dips_42 : decode cX12_dips 42 = .ok (.goto (-40), 3) := by decide +kernel
theorem dX12_dips_45 : decode cX12_dips 45 = .ok (.return_, 1) := by decide +kernel
theorem dX12_likeliest_0 : decode cX12_likeliest 0 = .ok (.iconst 0, 1) := by decide +kernel
theorem dX12_likeliest_1 : decode cX12_likeliest 1 = .ok (.istore_n 1, 1) := by decide +kernel
theorem dX12_likeliest_2 : decode cX12_likeliest 2 = .ok (.iconst 1, 1) := by decide +kernel
theorem dX12_likeliest_3 : decode cX12_likeliest 3 = .ok (.istore_n 2, 1) := by decide +kernel
theorem dX12_likeliest_4 : decode cX12_likeliest 4 = .ok (.iload_n 2, 1) := by decide +kernel
theorem dX12_likeliest_5 : decode cX12_likeliest 5 = .ok (.iconst 4, 1) := by decide +kernel
theorem dX12_likeliest_6 : decode cX12_likeliest 6 = .ok (.aload_n 0, 1) := by decide +kernel
theorem dX12_likeliest_7 : decode cX12_likeliest 7 = .ok (.getfield 7, 3) := by decide +kernel
theorem dX12_likeliest_10 : decode cX12_likeliest 10 = .ok (.imul, 1) := by decide +kernel
theorem dX12_likeliest_11 : decode cX12_likeliest 11 = .ok (.if_icmp .ge 27, 3) := by decide +kernel
theorem dX12_likeliest_14 : decode cX12_likeliest 14 = .ok (.aload_n 0, 1) := by decide +kernel
theorem dX12_likeliest_15 : decode cX12_likeliest 15 = .ok (.getfield 84, 3) := by decide +kernel
theorem dX12_likeliest_18 : decode cX12_likeliest 18 = .ok (.iload_n 2, 1) := by decide +kernel
theorem dX12_likeliest_19 : decode cX12_likeliest 19 = .ok (.laload, 1) := by decide +kernel
theorem dX12_likeliest_20 : decode cX12_likeliest 20 = .ok (.aload_n 0, 1) := by decide +kernel
theorem dX12_likeliest_21 : decode cX12_likeliest 21 = .ok (.getfield 84, 3) := by decide +kernel
theorem dX12_likeliest_24 : decode cX12_likeliest 24 = .ok (.iload_n 1, 1) := by decide +kernel
theorem dX12_likeliest_25 : decode cX12_likeliest 25 = .ok (.laload, 1) := by decide +kernel
theorem dX12_likeliest_26 : decode cX12_likeliest 26 = .ok (.lcmp, 1) := by decide +kernel
theorem dX12_likeliest_27 : decode cX12_likeliest 27 = .ok (.ifCond .le 5, 3) := by decide +kernel
theorem dX12_likeliest_30 : decode cX12_likeliest 30 = .ok (.iload_n 2, 1) := by decide +kernel
theorem dX12_likeliest_31 : decode cX12_likeliest 31 = .ok (.istore_n 1, 1) := by decide +kernel
theorem dX12_likeliest_32 : decode cX12_likeliest 32 = .ok (.iinc 2 1, 3) := by decide +kernel
theorem dX12_likeliest_35 : decode cX12_likeliest 35 = .ok (.goto (-31), 3) := by decide +kernel
theorem dX12_likeliest_38 : decode cX12_likeliest 38 = .ok (.iload_n 1, 1) := by decide +kernel
theorem dX12_likeliest_39 : decode cX12_likeliest 39 = .ok (.ireturn, 1) := by decide +kernel
theorem dX12_nextOf_0 : decode cX12_nextOf 0 = .ok (.iconst 0, 1) := by decide +kernel
theorem dX12_nextOf_1 : decode cX12_nextOf 1 = .ok (.istore_n 2, 1) := by decide +kernel
theorem dX12_nextOf_2 : decode cX12_nextOf 2 = .ok (.iload_n 2, 1) := by decide +kernel
theorem dX12_nextOf_3 : decode cX12_nextOf 3 = .ok (.aload_n 0, 1) := by decide +kernel
theorem dX12_nextOf_4 : decode cX12_nextOf 4 = .ok (.getfield 7, 3) := by decide +kernel
theorem dX12_nextOf_7 : decode cX12_nextOf 7 = .ok (.if_icmp .ge 44, 3) := by decide +kernel
theorem dX12_nextOf_10 : decode cX12_nextOf 10 = .ok (.aload_n 0, 1) := by decide +kernel
theorem dX12_nextOf_11 : decode cX12_nextOf 11 = .ok (.getfield 103, 3) := by decide +kernel
theorem dX12_nextOf_14 : decode cX12_nextOf 14 = .ok (.iload_n 2, 1) := by decide +kernel
theorem dX12_nextOf_15 : decode cX12_nextOf 15 = .ok (.aload_n 1, 1) := by decide +kernel
theorem dX12_nextOf_16 : decode cX12_nextOf 16 = .ok (.iconst 4, 1) := by decide +kernel
theorem dX12_nextOf_17 : decode cX12_nextOf 17 = .ok (.iload_n 2, 1) := by decide +kernel
theorem dX12_nextOf_18 : decode cX12_nextOf 18 = .ok (.imul, 1) := by decide +kernel
theorem dX12_nextOf_19 : decode cX12_nextOf 19 = .ok (.laload, 1) := by decide +kernel
theorem dX12_nextOf_20 : decode cX12_nextOf 20 = .ok (.aload_n 1, 1) := by decide +kernel
theorem dX12_nextOf_21 : decode cX12_nextOf 21 = .ok (.iconst 4, 1) := by decide +kernel
theorem dX12_nextOf_22 : decode cX12_nextOf 22 = .ok (.iload_n 2, 1) := by decide +kernel
theorem dX12_nextOf_23 : decode cX12_nextOf 23 = .ok (.imul, 1) := by decide +kernel
theorem dX12_nextOf_24 : decode cX12_nextOf 24 = .ok (.iconst 1, 1) := by decide +kernel
theorem dX12_nextOf_25 : decode cX12_nextOf 25 = .ok (.iadd, 1) := by decide +kernel
theorem dX12_nextOf_26 : decode cX12_nextOf 26 = .ok (.laload, 1) := by decide +kernel
theorem dX12_nextOf_27 : decode cX12_nextOf 27 = .ok (.ladd, 1) := by decide +kernel
theorem dX12_nextOf_28 : decode cX12_nextOf 28 = .ok (.aload_n 1, 1) := by decide +kernel
theorem dX12_nextOf_29 : decode cX12_nextOf 29 = .ok (.iconst 4, 1) := by decide +kernel
theorem dX12_nextOf_30 : decode cX12_nextOf 30 = .ok (.iload_n 2, 1) := by decide +kernel
theorem dX12_nextOf_31 : decode cX12_nextOf 31 = .ok (.imul, 1) := by decide +kernel
theorem dX12_nextOf_32 : decode cX12_nextOf 32 = .ok (.iconst 2, 1) := by decide +kernel
theorem dX12_nextOf_33 : decode cX12_nextOf 33 = .ok (.iadd, 1) := by decide +kernel
theorem dX12_nextOf_34 : decode cX12_nextOf 34 = .ok (.laload, 1) := by decide +kernel
theorem dX12_nextOf_35 : decode cX12_nextOf 35 = .ok (.ladd, 1) := by decide +kernel
theorem dX12_nextOf_36 : decode cX12_nextOf 36 = .ok (.aload_n 1, 1) := by decide +kernel
theorem dX12_nextOf_37 : decode cX12_nextOf 37 = .ok (.iconst 4, 1) := by decide +kernel
theorem dX12_nextOf_38 : decode cX12_nextOf 38 = .ok (.iload_n 2, 1) := by decide +kernel
theorem dX12_nextOf_39 : decode cX12_nextOf 39 = .ok (.imul, 1) := by decide +kernel
theorem dX12_nextOf_40 : decode cX12_nextOf 40 = .ok (.iconst 3, 1) := by decide +kernel
theorem dX12_nextOf_41 : decode cX12_nextOf 41 = .ok (.iadd, 1) := by decide +kernel
theorem dX12_nextOf_42 : decode cX12_nextOf 42 = .ok (.laload, 1) := by decide +kernel
theorem dX12_nextOf_43 : decode cX12_nextOf 43 = .ok (.ladd, 1) := by decide +kernel
theorem dX12_nextOf_44 : decode cX12_nextOf 44 = .ok (.lastore, 1) := by decide +kernel
theorem dX12_nextOf_45 : decode cX12_nextOf 45 = .ok (.iinc 2 1, 3) := by decide +kernel
theorem dX12_nextOf_48 : decode cX12_nextOf 48 = .ok (.goto (-46), 3) := by decide +kernel
theorem dX12_nextOf_51 : decode cX12_nextOf 51 = .ok (.iconst 0, 1) := by decide +kernel
theorem dX12_nextOf_52 : decode cX12_nextOf 52 = .ok (.istore_n 2, 1) := by decide +kernel
theorem dX12_nextOf_53 : decode cX12_nextOf 53 = .ok (.ldc2_w 420, 3) := by decide +kernel
theorem dX12_nextOf_56 : decode cX12_nextOf 56 = .ok (.lstore_n 3, 1) := by decide +kernel
theorem dX12_nextOf_57 : decode cX12_nextOf 57 = .ok (.iconst 0, 1) := by decide +kernel
theorem dX12_nextOf_58 : decode cX12_nextOf 58 = .ok (.istore 5, 2) := by decide +kernel
theorem dX12_nextOf_60 : decode cX12_nextOf 60 = .ok (.iload 5, 2) := by decide +kernel
theorem dX12_nextOf_62 : decode cX12_nextOf 62 = .ok (.aload_n 0, 1) := by decide +kernel
theorem dX12_nextOf_63 : decode cX12_nextOf 63 = .ok (.getfield 7, 3) := by decide +kernel
theorem dX12_nextOf_66 : decode cX12_nextOf 66 = .ok (.if_icmp .ge 66, 3) := by decide +kernel
theorem dX12_nextOf_69 : decode cX12_nextOf 69 = .ok (.lconst 0, 1) := by decide +kernel
theorem dX12_nextOf_70 : decode cX12_nextOf 70 = .ok (.lstore 6, 2) := by decide +kernel
theorem dX12_nextOf_72 : decode cX12_nextOf 72 = .ok (.iconst 0, 1) := by decide +kernel
theorem dX12_nextOf_73 : decode cX12_nextOf 73 = .ok (.istore 8, 2) := by decide +kernel
theorem dX12_nextOf_75 : decode cX12_nextOf 75 = .ok (.iload 8, 2) := by decide +kernel
theorem dX12_nextOf_77 : decode cX12_nextOf 77 = .ok (.aload_n 0, 1) := by decide +kernel
theorem dX12_nextOf_78 : decode cX12_nextOf 78 = .ok (.getfield 13, 3) := by decide +kernel
theorem dX12_nextOf_81 : decode cX12_nextOf 81 = .ok (.if_icmp .ge 29, 3) := by decide +kernel
theorem dX12_nextOf_84 : decode cX12_nextOf 84 = .ok (.lload 6, 2) := by decide +kernel
theorem dX12_nextOf_86 : decode cX12_nextOf 86 = .ok (.aload_n 0, 1) := by decide +kernel
theorem dX12_nextOf_87 : decode cX12_nextOf 87 = .ok (.getfield 103, 3) := by decide +kernel
theorem dX12_nextOf_90 : decode cX12_nextOf 90 = .ok (.iload 5, 2) := by decide +kernel
theorem dX12_nextOf_92 : decode cX12_nextOf 92 = .ok (.iload 8, 2) := by decide +kernel
theorem dX12_nextOf_94 : decode cX12_nextOf 94 = .ok (.iadd, 1) := by decide +kernel
theorem dX12_nextOf_95 : decode cX12_nextOf 95 = .ok (.aload_n 0, 1) := by decide +kernel
theorem dX12_nextOf_96 : decode cX12_nextOf 96 = .ok (.getfield 7, 3) := by decide +kernel
theorem dX12_nextOf_99 : decode cX12_nextOf 99 = .ok (.irem, 1) := by decide +kernel
theorem dX12_nextOf_100 : decode cX12_nextOf 100 = .ok (.laload, 1) := by decide +kernel
theorem dX12_nextOf_101 : decode cX12_nextOf 101 = .ok (.ladd, 1) := by decide +kernel
theorem dX12_nextOf_102 : decode cX12_nextOf 102 = .ok (.lstore 6, 2) := by decide +kernel
theorem dX12_nextOf_104 : decode cX12_nextOf 104 = .ok (.iinc 8 1, 3) := by decide +kernel
theorem dX12_nextOf_107 : decode cX12_nextOf 107 = .ok (.goto (-32), 3) := by decide +kernel
theorem dX12_nextOf_110 : decode cX12_nextOf 110 = .ok (.lload 6, 2) := by decide +kernel
theorem dX12_nextOf_112 : decode cX12_nextOf 112 = .ok (.lload_n 3, 1) := by decide +kernel
theorem dX12_nextOf_113 : decode cX12_nextOf 113 = .ok (.lcmp, 1) := by decide +kernel
theorem dX12_nextOf_114 : decode cX12_nextOf 114 = .ok (.ifCond .gt 6, 3) := by decide +kernel
theorem dX12_nextOf_117 : decode cX12_nextOf 117 = .ok (.goto 9, 3) := by decide +kernel
theorem dX12_nextOf_120 : decode cX12_nextOf 120 = .ok (.iload 5, 2) := by decide +kernel
theorem dX12_nextOf_122 : decode cX12_nextOf 122 = .ok (.istore_n 2, 1) := by decide +kernel
theorem dX12_nextOf_123 : decode cX12_nextOf 123 = .ok (.lload 6, 2) := by decide +kernel
theorem dX12_nextOf_125 : decode cX12_nextOf 125 = .ok (.lstore_n 3, 1) := by decide +kernel
theorem dX12_nextOf_126 : decode cX12_nextOf 126 = .ok (.iinc 5 1, 3) := by decide +kernel
theorem dX12_nextOf_129 : decode cX12_nextOf 129 = .ok (.goto (-69), 3) := by decide +kernel
theorem dX12_nextOf_132 : decode cX12_nextOf 132 = .ok (.iload_n 2, 1) := by decide +kernel
theorem dX12_nextOf_133 : decode cX12_nextOf 133 = .ok (.ireturn, 1) := by decide +kernel
theorem dX12_together_0 : decode cX12_together 0 = .ok (.lconst 0, 1) := by decide +kernel
theorem dX12_together_1 : decode cX12_together 1 = .ok (.lstore_n 1, 1) := by decide +kernel
theorem dX12_together_2 : decode cX12_together 2 = .ok (.iconst 0, 1) := by decide +kernel
theorem dX12_together_3 : decode cX12_together 3 = .ok (.istore_n 3, 1) := by decide +kernel
theorem dX12_together_4 : decode cX12_together 4 = .ok (.iload_n 3, 1) := by decide +kernel
theorem dX12_together_5 : decode cX12_together 5 = .ok (.sipush 336, 3) := by decide +kernel
theorem dX12_together_8 : decode cX12_together 8 = .ok (.if_icmp .ge 15, 3) := by decide +kernel
theorem dX12_together_11 : decode cX12_together 11 = .ok (.lload_n 1, 1) := by decide +kernel
theorem dX12_together_12 : decode cX12_together 12 = .ok (.aload_n 0, 1) := by decide +kernel
theorem dX12_together_13 : decode cX12_together 13 = .ok (.iload_n 3, 1) := by decide +kernel
theorem dX12_together_14 : decode cX12_together 14 = .ok (.laload, 1) := by decide +kernel
theorem dX12_together_15 : decode cX12_together 15 = .ok (.ladd, 1) := by decide +kernel
theorem dX12_together_16 : decode cX12_together 16 = .ok (.lstore_n 1, 1) := by decide +kernel
theorem dX12_together_17 : decode cX12_together 17 = .ok (.iinc 3 1, 3) := by decide +kernel
theorem dX12_together_20 : decode cX12_together 20 = .ok (.goto (-16), 3) := by decide +kernel
theorem dX12_together_23 : decode cX12_together 23 = .ok (.lload_n 1, 1) := by decide +kernel
theorem dX12_together_24 : decode cX12_together 24 = .ok (.lreturn, 1) := by decide +kernel
theorem dX12_dip_0 : decode cX12_dip 0 = .ok (.aload_n 0, 1) := by decide +kernel
theorem dX12_dip_1 : decode cX12_dip 1 = .ok (.iconst 0, 1) := by decide +kernel
theorem dX12_dip_2 : decode cX12_dip 2 = .ok (.putfield 127, 3) := by decide +kernel
theorem dX12_dip_5 : decode cX12_dip 5 = .ok (.aload_n 0, 1) := by decide +kernel
theorem dX12_dip_6 : decode cX12_dip 6 = .ok (.iload_n 1, 1) := by decide +kernel
theorem dX12_dip_7 : decode cX12_dip 7 = .ok (.invokevirtual 422, 3) := by decide +kernel
theorem dX12_dip_10 : decode cX12_dip 10 = .ok (.ifCond .eq 14, 3) := by decide +kernel
theorem dX12_dip_13 : decode cX12_dip 13 = .ok (.iload_n 2, 1) := by decide +kernel
theorem dX12_dip_14 : decode cX12_dip 14 = .ok (.iconst 1, 1) := by decide +kernel
theorem dX12_dip_15 : decode cX12_dip 15 = .ok (.sipush 600, 3) := by decide +kernel
theorem dX12_dip_18 : decode cX12_dip 18 = .ok (.invokestatic 348, 3) := by decide +kernel
theorem dX12_dip_21 : decode cX12_dip 21 = .ok (.ifCond .ne 8, 3) := by decide +kernel
theorem dX12_dip_24 : decode cX12_dip 24 = .ok (.aload_n 0, 1) := by decide +kernel
theorem dX12_dip_25 : decode cX12_dip 25 = .ok (.invokevirtual 405, 3) := by decide +kernel
theorem dX12_dip_28 : decode cX12_dip 28 = .ok (.ireturn, 1) := by decide +kernel
theorem dX12_dip_29 : decode cX12_dip 29 = .ok (.aload_n 0, 1) := by decide +kernel
theorem dX12_dip_30 : decode cX12_dip 30 = .ok (.invokevirtual 408, 3) := by decide +kernel
theorem dX12_dip_33 : decode cX12_dip 33 = .ok (.iconst 0, 1) := by decide +kernel
theorem dX12_dip_34 : decode cX12_dip 34 = .ok (.istore_n 3, 1) := by decide +kernel
theorem dX12_dip_35 : decode cX12_dip 35 = .ok (.iload_n 3, 1) := by decide +kernel
theorem dX12_dip_36 : decode cX12_dip 36 = .ok (.iload_n 2, 1) := by decide +kernel
theorem dX12_dip_37 : decode cX12_dip 37 = .ok (.if_icmp .ge 18, 3) := by decide +kernel
theorem dX12_dip_40 : decode cX12_dip 40 = .ok (.aload_n 0, 1) := by decide +kernel
theorem dX12_dip_41 : decode cX12_dip 41 = .ok (.aload_n 0, 1) := by decide +kernel
theorem dX12_dip_42 : decode cX12_dip 42 = .ok (.getfield 84, 3) := by decide +kernel
theorem dX12_dip_45 : decode cX12_dip 45 = .ok (.iload_n 1, 1) := by decide +kernel
theorem dX12_dip_46 : decode cX12_dip 46 = .ok (.invokevirtual 425, 3) := by decide +kernel
theorem dX12_dip_49 : decode cX12_dip 49 = .ok (.iinc 3 1, 3) := by decide +kernel
theorem dX12_dip_52 : decode cX12_dip 52 = .ok (.goto (-17), 3) := by decide +kernel
theorem dX12_dip_55 : decode cX12_dip 55 = .ok (.aload_n 0, 1) := by decide +kernel
theorem dX12_dip_56 : decode cX12_dip 56 = .ok (.invokevirtual 429, 3) := by decide +kernel
theorem dX12_dip_59 : decode cX12_dip 59 = .ok (.ireturn, 1) := by decide +kernel
theorem dX12_listen_0 : decode cX12_listen 0 = .ok (.aload_n 0, 1) := by decide +kernel
theorem dX12_listen_1 : decode cX12_listen 1 = .ok (.iconst 0, 1) := by decide +kernel
theorem dX12_listen_2 : decode cX12_listen 2 = .ok (.putfield 127, 3) := by decide +kernel
theorem dX12_listen_5 : decode cX12_listen 5 = .ok (.iload_n 1, 1) := by decide +kernel
theorem dX12_listen_6 : decode cX12_listen 6 = .ok (.iconst 0, 1) := by decide +kernel
theorem dX12_listen_7 : decode cX12_listen 7 = .ok (.iconst 3, 1) := by decide +kernel
theorem dX12_listen_8 : decode cX12_listen 8 = .ok (.invokestatic 348, 3) := by decide +kernel
theorem dX12_listen_11 : decode cX12_listen 11 = .ok (.ifCond .eq 14, 3) := by decide +kernel
theorem dX12_listen_14 : decode cX12_listen 14 = .ok (.iload_n 2, 1) := by decide +kernel
theorem dX12_listen_15 : decode cX12_listen 15 = .ok (.iconst 1, 1) := by decide +kernel
theorem dX12_listen_16 : decode cX12_listen 16 = .ok (.sipush 600, 3) := by decide +kernel
theorem dX12_listen_19 : decode cX12_listen 19 = .ok (.invokestatic 348, 3) := by decide +kernel
theorem dX12_listen_22 : decode cX12_listen 22 = .ok (.ifCond .ne 8, 3) := by decide +kernel
theorem dX12_listen_25 : decode cX12_listen 25 = .ok (.aload_n 0, 1) := by decide +kernel
theorem dX12_listen_26 : decode cX12_listen 26 = .ok (.invokevirtual 405, 3) := by decide +kernel
theorem dX12_listen_29 : decode cX12_listen 29 = .ok (.ireturn, 1) := by decide +kernel
theorem dX12_listen_30 : decode cX12_listen 30 = .ok (.aload_n 0, 1) := by decide +kernel
theorem dX12_listen_31 : decode cX12_listen 31 = .ok (.invokevirtual 408, 3) := by decide +kernel
theorem dX12_listen_34 : decode cX12_listen 34 = .ok (.iconst 0, 1) := by decide +kernel
theorem dX12_listen_35 : decode cX12_listen 35 = .ok (.istore_n 3, 1) := by decide +kernel
theorem dX12_listen_36 : decode cX12_listen 36 = .ok (.iload_n 3, 1) := by decide +kernel
theorem dX12_listen_37 : decode cX12_listen 37 = .ok (.iload_n 2, 1) := by decide +kernel
theorem dX12_listen_38 : decode cX12_listen 38 = .ok (.if_icmp .ge 68, 3) := by decide +kernel
theorem dX12_listen_41 : decode cX12_listen 41 = .ok (.iconst 0, 1) := by decide +kernel
theorem dX12_listen_42 : decode cX12_listen 42 = .ok (.istore 4, 2) := by decide +kernel
theorem dX12_listen_44 : decode cX12_listen 44 = .ok (.iload 4, 2) := by decide +kernel
theorem dX12_listen_46 : decode cX12_listen 46 = .ok (.iconst 4, 1) := by decide +kernel
theorem dX12_listen_47 : decode cX12_listen 47 = .ok (.aload_n 0, 1) := by decide +kernel
theorem dX12_listen_48 : decode cX12_listen 48 = .ok (.getfield 7, 3) := by decide +kernel
theorem dX12_listen_51 : decode cX12_listen 51 = .ok (.imul, 1) := by decide +kernel
theorem dX12_listen_52 : decode cX12_listen 52 = .ok (.if_icmp .ge 48, 3) := by decide +kernel
theorem dX12_listen_55 : decode cX12_listen 55 = .ok (.iload 4, 2) := by decide +kernel
theorem dX12_listen_57 : decode cX12_listen 57 = .ok (.iconst 4, 1) := by decide +kernel
theorem dX12_listen_58 : decode cX12_listen 58 = .ok (.idiv, 1) := by decide +kernel
theorem dX12_listen_59 : decode cX12_listen 59 = .ok (.iconst 4, 1) := by decide +kernel
theorem dX12_listen_60 : decode cX12_listen 60 = .ok (.imul, 1) := by decide +kernel
theorem dX12_listen_61 : decode cX12_listen 61 = .ok (.aload_n 0, 1) := by decide +kernel
theorem dX12_listen_62 : decode cX12_listen 62 = .ok (.getfield 7, 3) := by decide +kernel
theorem dX12_listen_65 : decode cX12_listen 65 = .ok (.idiv, 1) := by decide +kernel
theorem dX12_listen_66 : decode cX12_listen 66 = .ok (.iload_n 1, 1) := by decide +kernel
theorem dX12_listen_67 : decode cX12_listen 67 = .ok (.if_icmp .ne 27, 3) := by decide +kernel
theorem dX12_listen_70 : decode cX12_listen 70 = .ok (.aload_n 0, 1) := by decide +kernel
theorem dX12_listen_71 : decode cX12_listen 71 = .ok (.getfield 84, 3) := by decide +kernel
theorem dX12_listen_74 : decode cX12_listen 74 = .ok (.iload 4, 2) := by decide +kernel
theorem dX12_listen_76 : decode cX12_listen 76 = .ok (.aload_n 0, 1) := by decide +kernel
theorem dX12_listen_77 : decode cX12_listen 77 = .ok (.getfield 84, 3) := by decide +kernel
theorem dX12_listen_80 : decode cX12_listen 80 = .ok (.iload 4, 2) := by decide +kernel
theorem dX12_listen_82 : decode cX12_listen 82 = .ok (.laload, 1) := by decide +kernel
theorem dX12_listen_83 : decode cX12_listen 83 = .ok (.aload_n 0, 1) := by decide +kernel
theorem dX12_listen_84 : decode cX12_listen 84 = .ok (.getfield 19, 3) := by decide +kernel
theorem dX12_listen_87 : decode cX12_listen 87 = .ok (.i2l, 1) := by decide +kernel
theorem dX12_listen_88 : decode cX12_listen 88 = .ok (.lmul, 1) := by decide +kernel
theorem dX12_listen_89 : decode cX12_listen 89 = .ok (.ldc2_w 418, 3) := by decide +kernel
theorem dX12_listen_92 : decode cX12_listen 92 = .ok (.ldiv, 1) := by decide +kernel
theorem dX12_listen_93 : decode cX12_listen 93 = .ok (.lastore, 1) := by decide +kernel
theorem dX12_listen_94 : decode cX12_listen 94 = .ok (.iinc 4 1, 3) := by decide +kernel
theorem dX12_listen_97 : decode cX12_listen 97 = .ok (.goto (-53), 3) := by decide +kernel
theorem dX12_listen_100 : decode cX12_listen 100 = .ok (.iinc 3 1, 3) := by decide +kernel
theorem dX12_listen_103 : decode cX12_listen 103 = .ok (.goto (-67), 3) := by decide +kernel
theorem dX12_listen_106 : decode cX12_listen 106 = .ok (.aload_n 0, 1) := by decide +kernel
theorem dX12_listen_107 : decode cX12_listen 107 = .ok (.invokevirtual 429, 3) := by decide +kernel
theorem dX12_listen_110 : decode cX12_listen 110 = .ok (.ireturn, 1) := by decide +kernel
theorem dX12_thorn_0 : decode cX12_thorn 0 = .ok (.aload_n 0, 1) := by decide +kernel
theorem dX12_thorn_1 : decode cX12_thorn 1 = .ok (.iconst 0, 1) := by decide +kernel
theorem dX12_thorn_2 : decode cX12_thorn 2 = .ok (.putfield 127, 3) := by decide +kernel
theorem dX12_thorn_5 : decode cX12_thorn 5 = .ok (.aload_n 0, 1) := by decide +kernel
theorem dX12_thorn_6 : decode cX12_thorn 6 = .ok (.iload_n 1, 1) := by decide +kernel
theorem dX12_thorn_7 : decode cX12_thorn 7 = .ok (.invokevirtual 422, 3) := by decide +kernel
theorem dX12_thorn_10 : decode cX12_thorn 10 = .ok (.ifCond .ne 8, 3) := by decide +kernel
theorem dX12_thorn_13 : decode cX12_thorn 13 = .ok (.aload_n 0, 1) := by decide +kernel
theorem dX12_thorn_14 : decode cX12_thorn 14 = .ok (.invokevirtual 405, 3) := by decide +kernel
theorem dX12_thorn_17 : decode cX12_thorn 17 = .ok (.ireturn, 1) := by decide +kernel
theorem dX12_thorn_18 : decode cX12_thorn 18 = .ok (.aload_n 0, 1) := by decide +kernel
theorem dX12_thorn_19 : decode cX12_thorn 19 = .ok (.invokevirtual 408, 3) := by decide +kernel
theorem dX12_thorn_22 : decode cX12_thorn 22 = .ok (.iconst 0, 1) := by decide +kernel
theorem dX12_thorn_23 : decode cX12_thorn 23 = .ok (.istore_n 2, 1) := by decide +kernel
theorem dX12_thorn_24 : decode cX12_thorn 24 = .ok (.iload_n 2, 1) := by decide +kernel
theorem dX12_thorn_25 : decode cX12_thorn 25 = .ok (.aload_n 0, 1) := by decide +kernel
theorem dX12_thorn_26 : decode cX12_thorn 26 = .ok (.getfield 7, 3) := by decide +kernel
theorem dX12_thorn_29 : decode cX12_thorn 29 = .ok (.if_icmp .ge 88, 3) := by decide +kernel
theorem dX12_thorn_32 : decode cX12_thorn 32 = .ok (.aload_n 0, 1) := by decide +kernel
theorem dX12_thorn_33 : decode cX12_thorn 33 = .ok (.getfield 326, 3) := by decide +kernel
theorem dX12_thorn_36 : decode cX12_thorn 36 = .ok (.iload_n 2, 1) := by decide +kernel
theorem dX12_thorn_37 : decode cX12_thorn 37 = .ok (.iadd, 1) := by decide +kernel
theorem dX12_thorn_38 : decode cX12_thorn 38 = .ok (.aload_n 0, 1) := by decide +kernel
theorem dX12_thorn_39 : decode cX12_thorn 39 = .ok (.getfield 7, 3) := by decide +kernel
theorem dX12_thorn_42 : decode cX12_thorn 42 = .ok (.irem, 1) := by decide +kernel
theorem dX12_thorn_43 : decode cX12_thorn 43 = .ok (.iload_n 1, 1) := by decide +kernel
theorem dX12_thorn_44 : decode cX12_thorn 44 = .ok (.if_icmp .eq 26, 3) := by decide +kernel
theorem dX12_thorn_47 : decode cX12_thorn 47 = .ok (.aload_n 0, 1) := by decide +kernel
theorem dX12_thorn_48 : decode cX12_thorn 48 = .ok (.getfield 326, 3) := by decide +kernel
theorem dX12_thorn_51 : decode cX12_thorn 51 = .ok (.aload_n 0, 1) := by decide +kernel
theorem dX12_thorn_52 : decode cX12_thorn 52 = .ok (.getfield 7, 3) := by decide +kernel
theorem dX12_thorn_55 : decode cX12_thorn 55 = .ok (.iadd, 1) := by decide +kernel
theorem dX12_thorn_56 : decode cX12_thorn 56 = .ok (.iload_n 2, 1) := by decide +kernel
theorem dX12_thorn_57 : decode cX12_thorn 57 = .ok (.isub, 1) := by decide +kernel
theorem dX12_thorn_58 : decode cX12_thorn 58 = .ok (.aload_n 0, 1) := by decide +kernel
theorem dX12_thorn_59 : decode cX12_thorn 59 = .ok (.getfield 7, 3) := by decide +kernel
theorem dX12_thorn_62 : decode cX12_thorn 62 = .ok (.irem, 1) := by decide +kernel
theorem dX12_thorn_63 : decode cX12_thorn 63 = .ok (.iload_n 1, 1) := by decide +kernel
theorem dX12_thorn_64 : decode cX12_thorn 64 = .ok (.if_icmp .eq 6, 3) := by decide +kernel
theorem dX12_thorn_67 : decode cX12_thorn 67 = .ok (.goto 44, 3) := by decide +kernel
theorem dX12_thorn_70 : decode cX12_thorn 70 = .ok (.aload_n 0, 1) := by decide +kernel
theorem dX12_thorn_71 : decode cX12_thorn 71 = .ok (.getfield 84, 3) := by decide +kernel
theorem dX12_thorn_74 : decode cX12_thorn 74 = .ok (.iconst 4, 1) := by decide +kernel
theorem dX12_thorn_75 : decode cX12_thorn 75 = .ok (.iload_n 2, 1) := by decide +kernel
theorem dX12_thorn_76 : decode cX12_thorn 76 = .ok (.imul, 1) := by decide +kernel
theorem dX12_thorn_77 : decode cX12_thorn 77 = .ok (.aload_n 0, 1) := by decide +kernel
theorem dX12_thorn_78 : decode cX12_thorn 78 = .ok (.getfield 84, 3) := by decide +kernel
theorem dX12_thorn_81 : decode cX12_thorn 81 = .ok (.iconst 4, 1) := by decide +kernel
theorem dX12_thorn_82 : decode cX12_thorn 82 = .ok (.iload_n 2, 1) := by decide +kernel
theorem dX12_thorn_83 : decode cX12_thorn 83 = .ok (.imul, 1) := by decide +kernel
theorem dX12_thorn_84 : decode cX12_thorn 84 = .ok (.laload, 1) := by decide +kernel
theorem dX12_thorn_85 : decode cX12_thorn 85 = .ok (.ldc2_w 432, 3) := by decide +kernel
theorem dX12_thorn_88 : decode cX12_thorn 88 = .ok (.lcmp, 1) := by decide +kernel
theorem dX12_thorn_89 : decode cX12_thorn 89 = .ok (.ifCond .le 9, 3) := by decide +kernel
theorem dX12_thorn_92 : decode cX12_thorn 92 = .ok (.ldc2_w 434, 3) := by decide +kernel
theorem dX12_thorn_95 : decode cX12_thorn 95 = .ok (.goto 15, 3) := by decide +kernel
theorem dX12_thorn_98 : decode cX12_thorn 98 = .ok (.ldc2_w 436, 3) := by decide +kernel
theorem dX12_thorn_101 : decode cX12_thorn 101 = .ok (.aload_n 0, 1) := by decide +kernel
theorem dX12_thorn_102 : decode cX12_thorn 102 = .ok (.getfield 84, 3) := by decide +kernel
theorem dX12_thorn_105 : decode cX12_thorn 105 = .ok (.iconst 4, 1) := by decide +kernel
theorem dX12_thorn_106 : decode cX12_thorn 106 = .ok (.iload_n 2, 1) := by decide +kernel
theorem dX12_thorn_107 : decode cX12_thorn 107 = .ok (.imul, 1) := by decide +kernel
theorem dX12_thorn_108 : decode cX12_thorn 108 = .ok (.laload, 1) := by decide +kernel
theorem dX12_thorn_109 : decode cX12_thorn 109 = .ok (.lmul, 1) := by decide +kernel
theorem dX12_thorn_110 : decode cX12_thorn 110 = .ok (.lastore, 1) := by decide +kernel
theorem dX12_thorn_111 : decode cX12_thorn 111 = .ok (.iinc 2 1, 3) := by decide +kernel
theorem dX12_thorn_114 : decode cX12_thorn 114 = .ok (.goto (-90), 3) := by decide +kernel
theorem dX12_thorn_117 : decode cX12_thorn 117 = .ok (.aload_n 0, 1) := by decide +kernel
theorem dX12_thorn_118 : decode cX12_thorn 118 = .ok (.invokevirtual 429, 3) := by decide +kernel
theorem dX12_thorn_121 : decode cX12_thorn 121 = .ok (.ireturn, 1) := by decide +kernel
theorem dX12_weight_0 : decode cX12_weight 0 = .ok (.aload_n 0, 1) := by decide +kernel
theorem dX12_weight_1 : decode cX12_weight 1 = .ok (.iconst 0, 1) := by decide +kernel
theorem dX12_weight_2 : decode cX12_weight 2 = .ok (.putfield 127, 3) := by decide +kernel
theorem dX12_weight_5 : decode cX12_weight 5 = .ok (.aload_n 0, 1) := by decide +kernel
theorem dX12_weight_6 : decode cX12_weight 6 = .ok (.iload_n 1, 1) := by decide +kernel
theorem dX12_weight_7 : decode cX12_weight 7 = .ok (.ifCond .lt 17, 3) := by decide +kernel
theorem dX12_weight_10 : decode cX12_weight 10 = .ok (.iload_n 1, 1) := by decide +kernel
theorem dX12_weight_11 : decode cX12_weight 11 = .ok (.iconst 4, 1) := by decide +kernel
theorem dX12_weight_12 : decode cX12_weight 12 = .ok (.aload_n 0, 1) := by decide +kernel
theorem dX12_weight_13 : decode cX12_weight 13 = .ok (.getfield 7, 3) := by decide +kernel
theorem dX12_weight_16 : decode cX12_weight 16 = .ok (.imul, 1) := by decide +kernel
theorem dX12_weight_17 : decode cX12_weight 17 = .ok (.if_icmp .ge 7, 3) := by decide +kernel
theorem dX12_weight_20 : decode cX12_weight 20 = .ok (.iconst 1, 1) := by decide +kernel
theorem dX12_weight_21 : decode cX12_weight 21 = .ok (.goto 4, 3) := by decide +kernel
theorem dX12_weight_24 : decode cX12_weight 24 = .ok (.iconst 0, 1) := by decide +kernel
theorem dX12_weight_25 : decode cX12_weight 25 = .ok (.iconst 1, 1) := by decide +kernel
theorem dX12_weight_26 : decode cX12_weight 26 = .ok (.invokevirtual 316, 3) := by decide +kernel
theorem dX12_weight_29 : decode cX12_weight 29 = .ok (.ifCond .eq 12, 3) := by decide +kernel
theorem dX12_weight_32 : decode cX12_weight 32 = .ok (.aload_n 0, 1) := by decide +kernel
theorem dX12_weight_33 : decode cX12_weight 33 = .ok (.getfield 84, 3) := by decide +kernel
theorem dX12_weight_36 : decode cX12_weight 36 = .ok (.iload_n 1, 1) := by decide +kernel
theorem dX12_weight_37 : decode cX12_weight 37 = .ok (.laload, 1) := by decide +kernel
theorem dX12_weight_38 : decode cX12_weight 38 = .ok (.goto 4, 3) := by decide +kernel
theorem dX12_weight_41 : decode cX12_weight 41 = .ok (.lconst 0, 1) := by decide +kernel
theorem dX12_weight_42 : decode cX12_weight 42 = .ok (.lreturn, 1) := by decide +kernel
theorem dX12_thousandths_0 : decode cX12_thousandths 0 = .ok (.lload_n 2, 1) := by decide +kernel
theorem dX12_thousandths_1 : decode cX12_thousandths 1 = .ok (.lconst 0, 1) := by decide +kernel
theorem dX12_thousandths_2 : decode cX12_thousandths 2 = .ok (.lcmp, 1) := by decide +kernel
theorem dX12_thousandths_3 : decode cX12_thousandths 3 = .ok (.ifCond .ne 5, 3) := by decide +kernel
theorem dX12_thousandths_6 : decode cX12_thousandths 6 = .ok (.iconst 0, 1) := by decide +kernel
theorem dX12_thousandths_7 : decode cX12_thousandths 7 = .ok (.ireturn, 1) := by decide +kernel
theorem dX12_thousandths_8 : decode cX12_thousandths 8 = .ok (.lload_n 0, 1) := by decide +kernel
theorem dX12_thousandths_9 : decode cX12_thousandths 9 = .ok (.lload_n 2, 1) := by decide +kernel
theorem dX12_thousandths_10 : decode cX12_thousandths 10 = .ok (.ldiv, 1) := by decide +kernel
theorem dX12_thousandths_11 : decode cX12_thousandths 11 = .ok (.l2i, 1) := by decide +kernel
theorem dX12_thousandths_12 : decode cX12_thousandths 12 = .ok (.istore 4, 2) := by decide +kernel
theorem dX12_thousandths_14 : decode cX12_thousandths 14 = .ok (.lload_n 0, 1) := by decide +kernel
theorem dX12_thousandths_15 : decode cX12_thousandths 15 = .ok (.lload_n 2, 1) := by decide +kernel
theorem dX12_thousandths_16 : decode cX12_thousandths 16 = .ok (.lrem, 1) := by decide +kernel
theorem dX12_thousandths_17 : decode cX12_thousandths 17 = .ok (.lstore 5, 2) := by decide +kernel
theorem dX12_thousandths_19 : decode cX12_thousandths 19 = .ok (.iconst 0, 1) := by decide +kernel
theorem dX12_thousandths_20 : decode cX12_thousandths 20 = .ok (.istore 7, 2) := by decide +kernel
theorem dX12_thousandths_22 : decode cX12_thousandths 22 = .ok (.iload 7, 2) := by decide +kernel
theorem dX12_thousandths_24 : decode cX12_thousandths 24 = .ok (.iconst 3, 1) := by decide +kernel
theorem dX12_thousandths_25 : decode cX12_thousandths 25 = .ok (.if_icmp .ge 36, 3) := by decide +kernel
theorem dX12_thousandths_28 : decode cX12_thousandths 28 = .ok (.bipush 10, 2) := by decide +kernel
theorem dX12_thousandths_30 : decode cX12_thousandths 30 = .ok (.iload 4, 2) := by decide +kernel
theorem dX12_thousandths_32 : decode cX12_thousandths 32 = .ok (.imul, 1) := by decide +kernel
theorem dX12_thousandths_33 : decode cX12_thousandths 33 = .ok (.lload 5, 2) := by decide +kernel
theorem dX12_thousandths_35 : decode cX12_thousandths 35 = .ok (.ldc2_w 436, 3) := by decide +kernel
theorem dX12_thousandths_38 : decode cX12_thousandths 38 = .ok (.lmul, 1) := by decide +kernel
theorem dX12_thousandths_39 : decode cX12_thousandths 39 = .ok (.lload_n 2, 1) := by decide +kernel
theorem dX12_thousandths_40 : decode cX12_thousandths 40 = .ok (.ldiv, 1) := by decide +kernel
theorem dX12_thousandths_41 : decode cX12_thousandths 41 = .ok (.l2i, 1) := by decide +kernel
theorem dX12_thousandths_42 : decode cX12_thousandths 42 = .ok (.iadd, 1) := by decide +kernel
theorem dX12_thousandths_43 : decode cX12_thousandths 43 = .ok (.istore 4, 2) := by decide +kernel
theorem dX12_thousandths_45 : decode cX12_thousandths 45 = .ok (.lload 5, 2) := by decide +kernel
theorem dX12_thousandths_47 : decode cX12_thousandths 47 = .ok (.ldc2_w 436, 3) := by decide +kernel
theorem dX12_thousandths_50 : decode cX12_thousandths 50 = .ok (.lmul, 1) := by decide +kernel
theorem dX12_thousandths_51 : decode cX12_thousandths 51 = .ok (.lload_n 2, 1) := by decide +kernel
theorem dX12_thousandths_52 : decode cX12_thousandths 52 = .ok (.lrem, 1) := by decide +kernel
theorem dX12_thousandths_53 : decode cX12_thousandths 53 = .ok (.lstore 5, 2) := by decide +kernel
theorem dX12_thousandths_55 : decode cX12_thousandths 55 = .ok (.iinc 7 1, 3) := by decide +kernel
theorem dX12_thousandths_58 : decode cX12_thousandths 58 = .ok (.goto (-36), 3) := by decide +kernel
theorem dX12_thousandths_61 : decode cX12_thousandths 61 = .ok (.iload 4, 2) := by decide +kernel
theorem dX12_thousandths_63 : decode cX12_thousandths 63 = .ok (.ireturn, 1) := by decide +kernel
theorem dX12_odds_0 : decode cX12_odds 0 = .ok (.aload_n 0, 1) := by decide +kernel
theorem dX12_odds_1 : decode cX12_odds 1 = .ok (.iconst 0, 1) := by decide +kernel
theorem dX12_odds_2 : decode cX12_odds 2 = .ok (.putfield 127, 3) := by decide +kernel
theorem dX12_odds_5 : decode cX12_odds 5 = .ok (.aload_n 0, 1) := by decide +kernel
theorem dX12_odds_6 : decode cX12_odds 6 = .ok (.iload_n 1, 1) := by decide +kernel
theorem dX12_odds_7 : decode cX12_odds 7 = .ok (.ifCond .lt 17, 3) := by decide +kernel
theorem dX12_odds_10 : decode cX12_odds 10 = .ok (.iload_n 1, 1) := by decide +kernel
theorem dX12_odds_11 : decode cX12_odds 11 = .ok (.iconst 4, 1) := by decide +kernel
theorem dX12_odds_12 : decode cX12_odds 12 = .ok (.aload_n 0, 1) := by decide +kernel
theorem dX12_odds_13 : decode cX12_odds 13 = .ok (.getfield 7, 3) := by decide +kernel
theorem dX12_odds_16 : decode cX12_odds 16 = .ok (.imul, 1) := by decide +kernel
theorem dX12_odds_17 : decode cX12_odds 17 = .ok (.if_icmp .ge 7, 3) := by decide +kernel
theorem dX12_odds_20 : decode cX12_odds 20 = .ok (.iconst 1, 1) := by decide +kernel
theorem dX12_odds_21 : decode cX12_odds 21 = .ok (.goto 4, 3) := by decide +kernel
theorem dX12_odds_24 : decode cX12_odds 24 = .ok (.iconst 0, 1) := by decide +kernel
theorem dX12_odds_25 : decode cX12_odds 25 = .ok (.iconst 1, 1) := by decide +kernel
theorem dX12_odds_26 : decode cX12_odds 26 = .ok (.invokevirtual 316, 3) := by decide +kernel
theorem dX12_odds_29 : decode cX12_odds 29 = .ok (.ifCond .eq 22, 3) := by decide +kernel
theorem dX12_odds_32 : decode cX12_odds 32 = .ok (.aload_n 0, 1) := by decide +kernel
theorem dX12_odds_33 : decode cX12_odds 33 = .ok (.getfield 84, 3) := by decide +kernel
theorem dX12_odds_36 : decode cX12_odds 36 = .ok (.iload_n 1, 1) := by decide +kernel
theorem dX12_odds_37 : decode cX12_odds 37 = .ok (.laload, 1) := by decide +kernel
theorem dX12_odds_38 : decode cX12_odds 38 = .ok (.aload_n 0, 1) := by decide +kernel
theorem dX12_odds_39 : decode cX12_odds 39 = .ok (.getfield 84, 3) := by decide +kernel
theorem dX12_odds_42 : decode cX12_odds 42 = .ok (.invokestatic 438, 3) := by decide +kernel
theorem dX12_odds_45 : decode cX12_odds 45 = .ok (.invokestatic 442, 3) := by decide +kernel
theorem dX12_odds_48 : decode cX12_odds 48 = .ok (.goto 4, 3) := by decide +kernel
theorem dX12_odds_51 : decode cX12_odds 51 = .ok (.iconst 0, 1) := by decide +kernel
theorem dX12_odds_52 : decode cX12_odds 52 = .ok (.ireturn, 1) := by decide +kernel
theorem dX12_ofInch_0 : decode cX12_ofInch 0 = .ok (.aload_n 0, 1) := by decide +kernel
theorem dX12_ofInch_1 : decode cX12_ofInch 1 = .ok (.iconst 0, 1) := by decide +kernel
theorem dX12_ofInch_2 : decode cX12_ofInch 2 = .ok (.putfield 127, 3) := by decide +kernel
theorem dX12_ofInch_5 : decode cX12_ofInch 5 = .ok (.aload_n 0, 1) := by decide +kernel
theorem dX12_ofInch_6 : decode cX12_ofInch 6 = .ok (.aload_n 0, 1) := by decide +kernel
theorem dX12_ofInch_7 : decode cX12_ofInch 7 = .ok (.iload_n 1, 1) := by decide +kernel
theorem dX12_ofInch_8 : decode cX12_ofInch 8 = .ok (.invokevirtual 422, 3) := by decide +kernel
theorem dX12_ofInch_11 : decode cX12_ofInch 11 = .ok (.iconst 1, 1) := by decide +kernel
theorem dX12_ofInch_12 : decode cX12_ofInch 12 = .ok (.invokevirtual 316, 3) := by decide +kernel
theorem dX12_ofInch_15 : decode cX12_ofInch 15 = .ok (.ifCond .ne 5, 3) := by decide +kernel
theorem dX12_ofInch_18 : decode cX12_ofInch 18 = .ok (.iconst 0, 1) := by decide +kernel
theorem dX12_ofInch_19 : decode cX12_ofInch 19 = .ok (.ireturn, 1) := by decide +kernel
theorem dX12_ofInch_20 : decode cX12_ofInch 20 = .ok (.aload_n 0, 1) := by decide +kernel
theorem dX12_ofInch_21 : decode cX12_ofInch 21 = .ok (.getfield 84, 3) := by decide +kernel
theorem dX12_ofInch_24 : decode cX12_ofInch 24 = .ok (.iconst 4, 1) := by decide +kernel
theorem dX12_ofInch_25 : decode cX12_ofInch 25 = .ok (.iload_n 1, 1) := by decide +kernel
theorem dX12_ofInch_26 : decode cX12_ofInch 26 = .ok (.imul, 1) := by decide +kernel
theorem dX12_ofInch_27 : decode cX12_ofInch 27 = .ok (.laload, 1) := by decide +kernel
theorem dX12_ofInch_28 : decode cX12_ofInch 28 = .ok (.aload_n 0, 1) := by decide +kernel
theorem dX12_ofInch_29 : decode cX12_ofInch 29 = .ok (.getfield 84, 3) := by decide +kernel
theorem dX12_ofInch_32 : decode cX12_ofInch 32 = .ok (.iconst 4, 1) := by decide +kernel
theorem dX12_ofInch_33 : decode cX12_ofInch 33 = .ok (.iload_n 1, 1) := by decide +kernel
theorem dX12_ofInch_34 : decode cX12_ofInch 34 = .ok (.imul, 1) := by decide +kernel
theorem dX12_ofInch_35 : decode cX12_ofInch 35 = .ok (.iconst 1, 1) := by decide +kernel
theorem dX12_ofInch_36 : decode cX12_ofInch 36 = .ok (.iadd, 1) := by decide +kernel
theorem dX12_ofInch_37 : decode cX12_ofInch 37 = .ok (.laload, 1) := by decide +kernel
theorem dX12_ofInch_38 : decode cX12_ofInch 38 = .ok (.ladd, 1) := by decide +kernel
theorem dX12_ofInch_39 : decode cX12_ofInch 39 = .ok (.aload_n 0, 1) := by decide +kernel
theorem dX12_ofInch_40 : decode cX12_ofInch 40 = .ok (.getfield 84, 3) := by decide +kernel
theorem dX12_ofInch_43 : decode cX12_ofInch 43 = .ok (.iconst 4, 1) := by decide +kernel
theorem dX12_ofInch_44 : decode cX12_ofInch 44 = .ok (.iload_n 1, 1) := by decide +kernel
theorem dX12_ofInch_45 : decode cX12_ofInch 45 = .ok (.imul, 1) := by decide +kernel
theorem dX12_ofInch_46 : decode cX12_ofInch 46 = .ok (.iconst 2, 1) := by decide +kernel
theorem dX12_ofInch_47 : decode cX12_ofInch 47 = .ok (.iadd, 1) := by decide +kernel
theorem dX12_ofInch_48 : decode cX12_ofInch 48 = .ok (.laload, 1) := by decide +kernel
theorem dX12_ofInch_49 : decode cX12_ofInch 49 = .ok (.ladd, 1) := by decide +kernel
theorem dX12_ofInch_50 : decode cX12_ofInch 50 = .ok (.aload_n 0, 1) := by decide +kernel
theorem dX12_ofInch_51 : decode cX12_ofInch 51 = .ok (.getfield 84, 3) := by decide +kernel
theorem dX12_ofInch_54 : decode cX12_ofInch 54 = .ok (.iconst 4, 1) := by decide +kernel
theorem dX12_ofInch_55 : decode cX12_ofInch 55 = .ok (.iload_n 1, 1) := by decide +kernel
theorem dX12_ofInch_56 : decode cX12_ofInch 56 = .ok (.imul, 1) := by decide +kernel
theorem dX12_ofInch_57 : decode cX12_ofInch 57 = .ok (.iconst 3, 1) := by decide +kernel
theorem dX12_ofInch_58 : decode cX12_ofInch 58 = .ok (.iadd, 1) := by decide +kernel
theorem dX12_ofInch_59 : decode cX12_ofInch 59 = .ok (.laload, 1) := by decide +kernel
theorem dX12_ofInch_60 : decode cX12_ofInch 60 = .ok (.ladd, 1) := by decide +kernel
theorem dX12_ofInch_61 : decode cX12_ofInch 61 = .ok (.aload_n 0, 1) := by decide +kernel
theorem dX12_ofInch_62 : decode cX12_ofInch 62 = .ok (.getfield 84, 3) := by decide +kernel
theorem dX12_ofInch_65 : decode cX12_ofInch 65 = .ok (.invokestatic 438, 3) := by decide +kernel
theorem dX12_ofInch_68 : decode cX12_ofInch 68 = .ok (.invokestatic 442, 3) := by decide +kernel
theorem dX12_ofInch_71 : decode cX12_ofInch 71 = .ok (.ireturn, 1) := by decide +kernel
theorem dX12_ofSide_0 : decode cX12_ofSide 0 = .ok (.aload_n 0, 1) := by decide +kernel
theorem dX12_ofSide_1 : decode cX12_ofSide 1 = .ok (.iconst 0, 1) := by decide +kernel
theorem dX12_ofSide_2 : decode cX12_ofSide 2 = .ok (.putfield 127, 3) := by decide +kernel
theorem dX12_ofSide_5 : decode cX12_ofSide 5 = .ok (.aload_n 0, 1) := by decide +kernel
theorem dX12_ofSide_6 : decode cX12_ofSide 6 = .ok (.iload_n 1, 1) := by decide +kernel
theorem dX12_ofSide_7 : decode cX12_ofSide 7 = .ok (.iconst 0, 1) := by decide +kernel
theorem dX12_ofSide_8 : decode cX12_ofSide 8 = .ok (.iconst 3, 1) := by decide +kernel
theorem dX12_ofSide_9 : decode cX12_ofSide 9 = .ok (.invokestatic 348, 3) := by decide +kernel
theorem dX12_ofSide_12 : decode cX12_ofSide 12 = .ok (.iconst 1, 1) := by decide +kernel
theorem dX12_ofSide_13 : decode cX12_ofSide 13 = .ok (.invokevirtual 316, 3) := by decide +kernel
theorem dX12_ofSide_16 : decode cX12_ofSide 16 = .ok (.ifCond .ne 5, 3) := by decide +kernel
theorem dX12_ofSide_19 : decode cX12_ofSide 19 = .ok (.iconst 0, 1) := by decide +kernel
theorem dX12_ofSide_20 : decode cX12_ofSide 20 = .ok (.ireturn, 1) := by decide +kernel
theorem dX12_ofSide_21 : decode cX12_ofSide 21 = .ok (.lconst 0, 1) := by decide +kernel
theorem dX12_ofSide_22 : decode cX12_ofSide 22 = .ok (.lstore_n 2, 1) := by decide +kernel
theorem dX12_ofSide_23 : decode cX12_ofSide 23 = .ok (.iconst 0, 1) := by decide +kernel
theorem dX12_ofSide_24 : decode cX12_ofSide 24 = .ok (.istore 4, 2) := by decide +kernel
theorem dX12_ofSide_26 : decode cX12_ofSide 26 = .ok (.iload 4, 2) := by decide +kernel
theorem dX12_ofSide_28 : decode cX12_ofSide 28 = .ok (.aload_n 0, 1) := by decide +kernel
theorem dX12_ofSide_29 : decode cX12_ofSide 29 = .ok (.getfield 7, 3) := by decide +kernel
theorem dX12_ofSide_32 : decode cX12_ofSide 32 = .ok (.if_icmp .ge 23, 3) := by decide +kernel
theorem dX12_ofSide_35 : decode cX12_ofSide 35 = .ok (.lload_n 2, 1) := by decide +kernel
theorem dX12_ofSide_36 : decode cX12_ofSide 36 = .ok (.aload_n 0, 1) := by decide +kernel
theorem dX12_ofSide_37 : decode cX12_ofSide 37 = .ok (.getfield 84, 3) := by decide +kernel
theorem dX12_ofSide_40 : decode cX12_ofSide 40 = .ok (.iconst 4, 1) := by decide +kernel
theorem dX12_ofSide_41 : decode cX12_ofSide 41 = .ok (.iload 4, 2) := by decide +kernel
theorem dX12_ofSide_43 : decode cX12_ofSide 43 = .ok (.imul, 1) := by decide +kernel
theorem dX12_ofSide_44 : decode cX12_ofSide 44 = .ok (.iload_n 1, 1) := by decide +kernel
theorem dX12_ofSide_45 : decode cX12_ofSide 45 = .ok (.iadd, 1) := by decide +kernel
theorem dX12_ofSide_46 : decode cX12_ofSide 46 = .ok (.laload, 1) := by decide +kernel
theorem dX12_ofSide_47 : decode cX12_ofSide 47 = .ok (.ladd, 1) := by decide +kernel
theorem dX12_ofSide_48 : decode cX12_ofSide 48 = .ok (.lstore_n 2, 1) := by decide +kernel
theorem dX12_ofSide_49 : decode cX12_ofSide 49 = .ok (.iinc 4 1, 3) := by decide +kernel
theorem dX12_ofSide_52 : decode cX12_ofSide 52 = .ok (.goto (-26), 3) := by decide +kernel
theorem dX12_ofSide_55 : decode cX12_ofSide 55 = .ok (.lload_n 2, 1) := by decide +kernel
theorem dX12_ofSide_56 : decode cX12_ofSide 56 = .ok (.aload_n 0, 1) := by decide +kernel
theorem dX12_ofSide_57 : decode cX12_ofSide 57 = .ok (.getfield 84, 3) := by decide +kernel
theorem dX12_ofSide_60 : decode cX12_ofSide 60 = .ok (.invokestatic 438, 3) := by decide +kernel
theorem dX12_ofSide_63 : decode cX12_ofSide 63 = .ok (.invokestatic 442, 3) := by decide +kernel
theorem dX12_ofSide_66 : decode cX12_ofSide 66 = .ok (.ireturn, 1) := by decide +kernel
theorem dX12_quarter_0 : decode cX12_quarter 0 = .ok (.aload_n 0, 1) := by decide +kernel
theorem dX12_quarter_1 : decode cX12_quarter 1 = .ok (.iconst 0, 1) := by decide +kernel
theorem dX12_quarter_2 : decode cX12_quarter 2 = .ok (.putfield 127, 3) := by decide +kernel
theorem dX12_quarter_5 : decode cX12_quarter 5 = .ok (.iconst 0, 1) := by decide +kernel
theorem dX12_quarter_6 : decode cX12_quarter 6 = .ok (.istore_n 1, 1) := by decide +kernel
theorem dX12_quarter_7 : decode cX12_quarter 7 = .ok (.ldc2_w 420, 3) := by decide +kernel
theorem dX12_quarter_10 : decode cX12_quarter 10 = .ok (.lstore_n 2, 1) := by decide +kernel
theorem dX12_quarter_11 : decode cX12_quarter 11 = .ok (.iconst 0, 1) := by decide +kernel
theorem dX12_quarter_12 : decode cX12_quarter 12 = .ok (.istore 4, 2) := by decide +kernel
theorem dX12_quarter_14 : decode cX12_quarter 14 = .ok (.iload 4, 2) := by decide +kernel
theorem dX12_quarter_16 : decode cX12_quarter 16 = .ok (.iconst 4, 1) := by decide +kernel
theorem dX12_quarter_17 : decode cX12_quarter 17 = .ok (.if_icmp .ge 80, 3) := by decide +kernel
theorem dX12_quarter_20 : decode cX12_quarter 20 = .ok (.lconst 0, 1) := by decide +kernel
theorem dX12_quarter_21 : decode cX12_quarter 21 = .ok (.lstore 5, 2) := by decide +kernel
theorem dX12_quarter_23 : decode cX12_quarter 23 = .ok (.iconst 0, 1) := by decide +kernel
theorem dX12_quarter_24 : decode cX12_quarter 24 = .ok (.istore 7, 2) := by decide +kernel
theorem dX12_quarter_26 : decode cX12_quarter 26 = .ok (.iload 7, 2) := by decide +kernel
theorem dX12_quarter_28 : decode cX12_quarter 28 = .ok (.iconst 4, 1) := by decide +kernel
theorem dX12_quarter_29 : decode cX12_quarter 29 = .ok (.aload_n 0, 1) := by decide +kernel
theorem dX12_quarter_30 : decode cX12_quarter 30 = .ok (.getfield 7, 3) := by decide +kernel
theorem dX12_quarter_33 : decode cX12_quarter 33 = .ok (.imul, 1) := by decide +kernel
theorem dX12_quarter_34 : decode cX12_quarter 34 = .ok (.if_icmp .ge 41, 3) := by decide +kernel
theorem dX12_quarter_37 : decode cX12_quarter 37 = .ok (.lload 5, 2) := by decide +kernel
theorem dX12_quarter_39 : decode cX12_quarter 39 = .ok (.iload 7, 2) := by decide +kernel
theorem dX12_quarter_41 : decode cX12_quarter 41 = .ok (.iconst 4, 1) := by decide +kernel
theorem dX12_quarter_42 : decode cX12_quarter 42 = .ok (.idiv, 1) := by decide +kernel
theorem dX12_quarter_43 : decode cX12_quarter 43 = .ok (.iconst 4, 1) := by decide +kernel
theorem dX12_quarter_44 : decode cX12_quarter 44 = .ok (.imul, 1) := by decide +kernel
theorem dX12_quarter_45 : decode cX12_quarter 45 = .ok (.aload_n 0, 1) := by decide +kernel
theorem dX12_quarter_46 : decode cX12_quarter 46 = .ok (.getfield 7, 3) := by decide +kernel
theorem dX12_quarter_49 : decode cX12_quarter 49 = .ok (.idiv, 1) := by decide +kernel
theorem dX12_quarter_50 : decode cX12_quarter 50 = .ok (.iload 4, 2) := by decide +kernel
theorem dX12_quarter_52 : decode cX12_quarter 52 = .ok (.if_icmp .ne 13, 3) := by decide +kernel
theorem dX12_quarter_55 : decode cX12_quarter 55 = .ok (.aload_n 0, 1) := by decide +kernel
theorem dX12_quarter_56 : decode cX12_quarter 56 = .ok (.getfield 84, 3) := by decide +kernel
theorem dX12_quarter_59 : decode cX12_quarter 59 = .ok (.iload 7, 2) := by decide +kernel
theorem dX12_quarter_61 : decode cX12_quarter 61 = .ok (.laload, 1) := by decide +kernel
theorem dX12_quarter_62 : decode cX12_quarter 62 = .ok (.goto 4, 3) := by decide +kernel
theorem dX12_quarter_65 : decode cX12_quarter 65 = .ok (.lconst 0, 1) := by decide +kernel
theorem dX12_quarter_66 : decode cX12_quarter 66 = .ok (.ladd, 1) := by decide +kernel
theorem dX12_quarter_67 : decode cX12_quarter 67 = .ok (.lstore 5, 2) := by decide +kernel
theorem dX12_quarter_69 : decode cX12_quarter 69 = .ok (.iinc 7 1, 3) := by decide +kernel
theorem dX12_quarter_72 : decode cX12_quarter 72 = .ok (.goto (-46), 3) := by decide +kernel
theorem dX12_quarter_75 : decode cX12_quarter 75 = .ok (.lload 5, 2) := by decide +kernel
theorem dX12_quarter_77 : decode cX12_quarter 77 = .ok (.lload_n 2, 1) := by decide +kernel
theorem dX12_quarter_78 : decode cX12_quarter 78 = .ok (.lcmp, 1) := by decide +kernel
theorem dX12_quarter_79 : decode cX12_quarter 79 = .ok (.ifCond .gt 6, 3) := by decide +kernel
theorem dX12_quarter_82 : decode cX12_quarter 82 = .ok (.goto 9, 3) := by decide +kernel
theorem dX12_quarter_85 : decode cX12_quarter 85 = .ok (.iload 4, 2) := by decide +kernel
theorem dX12_quarter_87 : decode cX12_quarter 87 = .ok (.istore_n 1, 1) := by decide +kernel
theorem dX12_quarter_88 : decode cX12_quarter 88 = .ok (.lload 5, 2) := by decide +kernel
theorem dX12_quarter_90 : decode cX12_quarter 90 = .ok (.lstore_n 2, 1) := by decide +kernel
theorem dX12_quarter_91 : decode cX12_quarter 91 = .ok (.iinc 4 1, 3) := by decide +kernel
theorem dX12_quarter_94 : decode cX12_quarter 94 = .ok (.goto (-80), 3) := by decide +kernel
theorem dX12_quarter_97 : decode cX12_quarter 97 = .ok (.iload_n 1, 1) := by decide +kernel
theorem dX12_quarter_98 : decode cX12_quarter 98 = .ok (.ireturn, 1) := by decide +kernel
theorem dX12_next_0 : decode cX12_next 0 = .ok (.aload_n 0, 1) := by decide +kernel
theorem dX12_next_1 : decode cX12_next 1 = .ok (.iconst 0, 1) := by decide +kernel
theorem dX12_next_2 : decode cX12_next 2 = .ok (.putfield 127, 3) := by decide +kernel
theorem dX12_next_5 : decode cX12_next 5 = .ok (.aload_n 0, 1) := by decide +kernel
theorem dX12_next_6 : decode cX12_next 6 = .ok (.iload_n 1, 1) := by decide +kernel
theorem dX12_next_7 : decode cX12_next 7 = .ok (.iconst 2, 1) := by decide +kernel
theorem dX12_next_8 : decode cX12_next 8 = .ok (.invokevirtual 364, 3) := by decide +kernel
theorem dX12_next_11 : decode cX12_next 11 = .ok (.ifCond .ne 5, 3) := by decide +kernel
theorem dX12_next_14 : decode cX12_next 14 = .ok (.iconst 0, 1) := by decide +kernel
theorem dX12_next_15 : decode cX12_next 15 = .ok (.ireturn, 1) := by decide +kernel
theorem dX12_next_16 : decode cX12_next 16 = .ok (.iload_n 1, 1) := by decide +kernel
theorem dX12_next_17 : decode cX12_next 17 = .ok (.ifCond .ne 8, 3) := by decide +kernel
theorem dX12_next_20 : decode cX12_next 20 = .ok (.aload_n 0, 1) := by decide +kernel
theorem dX12_next_21 : decode cX12_next 21 = .ok (.invokevirtual 429, 3) := by decide +kernel
theorem dX12_next_24 : decode cX12_next 24 = .ok (.ireturn, 1) := by decide +kernel
theorem dX12_next_25 : decode cX12_next 25 = .ok (.aload_n 0, 1) := by decide +kernel
theorem dX12_next_26 : decode cX12_next 26 = .ok (.invokevirtual 446, 3) := by decide +kernel
theorem dX12_next_29 : decode cX12_next 29 = .ok (.aload_n 0, 1) := by decide +kernel
theorem dX12_next_30 : decode cX12_next 30 = .ok (.aload_n 0, 1) := by decide +kernel
theorem dX12_next_31 : decode cX12_next 31 = .ok (.getfield 100, 3) := by decide +kernel
theorem dX12_next_34 : decode cX12_next 34 = .ok (.invokevirtual 449, 3) := by decide +kernel
theorem dX12_next_37 : decode cX12_next 37 = .ok (.istore_n 2, 1) := by decide +kernel
theorem dX12_next_38 : decode cX12_next 38 = .ok (.iload_n 1, 1) := by decide +kernel
theorem dX12_next_39 : decode cX12_next 39 = .ok (.iconst 1, 1) := by decide +kernel
theorem dX12_next_40 : decode cX12_next 40 = .ok (.if_icmp .ne 5, 3) := by decide +kernel
theorem dX12_next_43 : decode cX12_next 43 = .ok (.iload_n 2, 1) := by decide +kernel
theorem dX12_next_44 : decode cX12_next 44 = .ok (.ireturn, 1) := by decide +kernel
theorem dX12_next_45 : decode cX12_next 45 = .ok (.iconst 0, 1) := by decide +kernel
theorem dX12_next_46 : decode cX12_next 46 = .ok (.istore_n 3, 1) := by decide +kernel
theorem dX12_next_47 : decode cX12_next 47 = .ok (.iload_n 3, 1) := by decide +kernel
theorem dX12_next_48 : decode cX12_next 48 = .ok (.sipush 600, 3) := by decide +kernel
theorem dX12_next_51 : decode cX12_next 51 = .ok (.if_icmp .ge 30, 3) := by decide +kernel
theorem dX12_next_54 : decode cX12_next 54 = .ok (.aload_n 0, 1) := by decide +kernel
theorem dX12_next_55 : decode cX12_next 55 = .ok (.aload_n 0, 1) := by decide +kernel
theorem dX12_next_56 : decode cX12_next 56 = .ok (.getfield 100, 3) := by decide +kernel
theorem dX12_next_59 : decode cX12_next 59 = .ok (.invokevirtual 449, 3) := by decide +kernel
theorem dX12_next_62 : decode cX12_next 62 = .ok (.iload_n 2, 1) := by decide +kernel
theorem dX12_next_63 : decode cX12_next 63 = .ok (.if_icmp .ne 18, 3) := by decide +kernel
theorem dX12_next_66 : decode cX12_next 66 = .ok (.aload_n 0, 1) := by decide +kernel
theorem dX12_next_67 : decode cX12_next 67 = .ok (.aload_n 0, 1) := by decide +kernel
theorem dX12_next_68 : decode cX12_next 68 = .ok (.getfield 100, 3) := by decide +kernel
theorem dX12_next_71 : decode cX12_next 71 = .ok (.iload_n 2, 1) := by decide +kernel
theorem dX12_next_72 : decode cX12_next 72 = .ok (.invokevirtual 425, 3) := by decide +kernel
theorem dX12_next_75 : decode cX12_next 75 = .ok (.iinc 3 1, 3) := by decide +kernel
theorem dX12_next_78 : decode cX12_next 78 = .ok (.goto (-31), 3) := by decide +kernel
theorem dX12_next_81 : decode cX12_next 81 = .ok (.iload_n 3, 1) := by decide +kernel
theorem dX12_next_82 : decode cX12_next 82 = .ok (.ireturn, 1) := by decide +kernel
theorem dX12_plan_0 : decode cX12_plan 0 = .ok (.aload_n 0, 1) := by decide +kernel
theorem dX12_plan_1 : decode cX12_plan 1 = .ok (.iconst 0, 1) := by decide +kernel
theorem dX12_plan_2 : decode cX12_plan 2 = .ok (.putfield 127, 3) := by decide +kernel
theorem dX12_plan_5 : decode cX12_plan 5 = .ok (.aload_n 0, 1) := by decide +kernel
theorem dX12_plan_6 : decode cX12_plan 6 = .ok (.iload_n 1, 1) := by decide +kernel
theorem dX12_plan_7 : decode cX12_plan 7 = .ok (.iconst 0, 1) := by decide +kernel
theorem dX12_plan_8 : decode cX12_plan 8 = .ok (.sipush 600, 3) := by decide +kernel
theorem dX12_plan_11 : decode cX12_plan 11 = .ok (.invokestatic 348, 3) := by decide +kernel
theorem dX12_plan_14 : decode cX12_plan 14 = .ok (.iconst 1, 1) := by decide +kernel
theorem dX12_plan_15 : decode cX12_plan 15 = .ok (.invokevirtual 316, 3) := by decide +kernel
theorem dX12_plan_18 : decode cX12_plan 18 = .ok (.ifCond .ne 5, 3) := by decide +kernel
theorem dX12_plan_21 : decode cX12_plan 21 = .ok (.iconst 0, 1) := by decide +kernel
theorem dX12_plan_22 : decode cX12_plan 22 = .ok (.ireturn, 1) := by decide +kernel
theorem dX12_plan_23 : decode cX12_plan 23 = .ok (.iconst 0, 1) := by decide +kernel
theorem dX12_plan_24 : decode cX12_plan 24 = .ok (.istore_n 2, 1) := by decide +kernel
theorem dX12_plan_25 : decode cX12_plan 25 = .ok (.iload_n 2, 1) := by decide +kernel
theorem dX12_plan_26 : decode cX12_plan 26 = .ok (.bipush 84, 2) := by decide +kernel
theorem dX12_plan_28 : decode cX12_plan 28 = .ok (.if_icmp .ge 16, 3) := by decide +kernel
theorem dX12_plan_31 : decode cX12_plan 31 = .ok (.aload_n 0, 1) := by decide +kernel
theorem dX12_plan_32 : decode cX12_plan 32 = .ok (.getfield 106, 3) := by decide +kernel
theorem dX12_plan_35 : decode cX12_plan 35 = .ok (.iload_n 2, 1) := by decide +kernel
theorem dX12_plan_36 : decode cX12_plan 36 = .ok (.iconst 0, 1) := by decide +kernel
theorem dX12_plan_37 : decode cX12_plan 37 = .ok (.iastore, 1) := by decide +kernel
theorem dX12_plan_38 : decode cX12_plan 38 = .ok (.iinc 2 1, 3) := by decide +kernel
theorem dX12_plan_41 : decode cX12_plan 41 = .ok (.goto (-16), 3) := by decide +kernel
theorem dX12_plan_44 : decode cX12_plan 44 = .ok (.aload_n 0, 1) := by decide +kernel
theorem dX12_plan_45 : decode cX12_plan 45 = .ok (.invokevirtual 446, 3) := by decide +kernel
theorem dX12_plan_48 : decode cX12_plan 48 = .ok (.iconst 0, 1) := by decide +kernel
theorem dX12_plan_49 : decode cX12_plan 49 = .ok (.istore_n 2, 1) := by decide +kernel
theorem dX12_plan_50 : decode cX12_plan 50 = .ok (.iload_n 2, 1) := by decide +kernel
theorem dX12_plan_51 : decode cX12_plan 51 = .ok (.iload_n 1, 1) := by decide +kernel
theorem dX12_plan_52 : decode cX12_plan 52 = .ok (.if_icmp .ge 37, 3) := by decide +kernel
theorem dX12_plan_55 : decode cX12_plan 55 = .ok (.aload_n 0, 1) := by decide +kernel
theorem dX12_plan_56 : decode cX12_plan 56 = .ok (.aload_n 0, 1) := by decide +kernel
theorem dX12_plan_57 : decode cX12_plan 57 = .ok (.getfield 100, 3) := by decide +kernel
theorem dX12_plan_60 : decode cX12_plan 60 = .ok (.invokevirtual 449, 3) := by decide +kernel
theorem dX12_plan_63 : decode cX12_plan 63 = .ok (.istore_n 3, 1) := by decide +kernel
theorem dX12_plan_64 : decode cX12_plan 64 = .ok (.aload_n 0, 1) := by decide +kernel
theorem dX12_plan_65 : decode cX12_plan 65 = .ok (.getfield 106, 3) := by decide +kernel
theorem dX12_plan_68 : decode cX12_plan 68 = .ok (.iload_n 3, 1) := by decide +kernel
theorem dX12_plan_69 : decode cX12_plan 69 = .ok (.dup2, 1) := by decide +kernel
theorem dX12_plan_70 : decode cX12_plan 70 = .ok (.iaload, 1) := by decide +kernel
theorem dX12_plan_71 : decode cX12_plan 71 = .ok (.iconst 1, 1) := by decide +kernel
theorem dX12_plan_72 : decode cX12_plan 72 = .ok (.iadd, 1) := by decide +kernel
theorem dX12_plan_73 : decode cX12_plan 73 = .ok (.iastore, 1) := by decide +kernel
theorem dX12_plan_74 : decode cX12_plan 74 = .ok (.aload_n 0, 1) := by decide +kernel
theorem dX12_plan_75 : decode cX12_plan 75 = .ok (.aload_n 0, 1) := by decide +kernel
theorem dX12_plan_76 : decode cX12_plan 76 = .ok (.getfield 100, 3) := by decide +kernel
theorem dX12_plan_79 : decode cX12_plan 79 = .ok (.iload_n 3, 1) := by decide +kernel
theorem dX12_plan_80 : decode cX12_plan 80 = .ok (.invokevirtual 425, 3) := by decide +kernel
theorem dX12_plan_83 : decode cX12_plan 83 = .ok (.iinc 2 1, 3) := by decide +kernel
theorem dX12_plan_86 : decode cX12_plan 86 = .ok (.goto (-36), 3) := by decide +kernel
theorem dX12_plan_89 : decode cX12_plan 89 = .ok (.aload_n 0, 1) := by decide +kernel
theorem dX12_plan_90 : decode cX12_plan 90 = .ok (.iconst 1, 1) := by decide +kernel
theorem dX12_plan_91 : decode cX12_plan 91 = .ok (.putfield 342, 3) := by decide +kernel
theorem dX12_plan_94 : decode cX12_plan 94 = .ok (.iconst 0, 1) := by decide +kernel
theorem dX12_plan_95 : decode cX12_plan 95 = .ok (.istore_n 2, 1) := by decide +kernel
theorem dX12_plan_96 : decode cX12_plan 96 = .ok (.iconst 0, 1) := by decide +kernel
theorem dX12_plan_97 : decode cX12_plan 97 = .ok (.istore_n 3, 1) := by decide +kernel
theorem dX12_plan_98 : decode cX12_plan 98 = .ok (.iload_n 3, 1) := by decide +kernel
theorem dX12_plan_99 : decode cX12_plan 99 = .ok (.bipush 84, 2) := by decide +kernel
theorem dX12_plan_101 : decode cX12_plan 101 = .ok (.if_icmp .ge 26, 3) := by decide +kernel
theorem dX12_plan_104 : decode cX12_plan 104 = .ok (.iload_n 2, 1) := by decide +kernel
theorem dX12_plan_105 : decode cX12_plan 105 = .ok (.aload_n 0, 1) := by decide +kernel
theorem dX12_plan_106 : decode cX12_plan 106 = .ok (.getfield 106, 3) := by decide +kernel
theorem dX12_plan_109 : decode cX12_plan 109 = .ok (.iload_n 3, 1) := by decide +kernel
theorem dX12_plan_110 : decode cX12_plan 110 = .ok (.iaload, 1) := by decide +kernel
theorem dX12_plan_111 : decode cX12_plan 111 = .ok (.ifCond .le 7, 3) := by decide +kernel
theorem dX12_plan_114 : decode cX12_plan 114 = .ok (.iconst 1, 1) := by decide +kernel
theorem dX12_plan_115 : decode cX12_plan 115 = .ok (.goto 4, 3) := by decide +kernel
theorem dX12_plan_118 : decode cX12_plan 118 = .ok (.iconst 0, 1) := by decide +kernel
theorem dX12_plan_119 : decode cX12_plan 119 = .ok (.iadd, 1) := by decide +kernel
theorem dX12_plan_120 : decode cX12_plan 120 = .ok (.istore_n 2, 1) := by decide +kernel
theorem dX12_plan_121 : decode cX12_plan 121 = .ok (.iinc 3 1, 3) := by decide +kernel
theorem dX12_plan_124 : decode cX12_plan 124 = .ok (.goto (-26), 3) := by decide +kernel
theorem dX12_plan_127 : decode cX12_plan 127 = .ok (.iload_n 2, 1) := by decide +kernel
theorem dX12_plan_128 : decode cX12_plan 128 = .ok (.ireturn, 1) := by decide +kernel
theorem dX12_planned_0 : decode cX12_planned 0 = .ok (.aload_n 0, 1) := by decide +kernel
theorem dX12_planned_1 : decode cX12_planned 1 = .ok (.iconst 0, 1) := by decide +kernel
theorem dX12_planned_2 : decode cX12_planned 2 = .ok (.putfield 127, 3) := by decide +kernel
theorem dX12_planned_5 : decode cX12_planned 5 = .ok (.aload_n 0, 1) := by decide +kernel
theorem dX12_planned_6 : decode cX12_planned 6 = .ok (.aload_n 0, 1) := by decide +kernel
theorem dX12_planned_7 : decode cX12_planned 7 = .ok (.getfield 342, 3) := by decide +kernel
theorem dX12_planned_10 : decode cX12_planned 10 = .ok (.ifCond .eq 15, 3) := by decide +kernel
theorem dX12_planned_13 : decode cX12_planned 13 = .ok (.aload_n 0, 1) := by decide +kernel
theorem dX12_planned_14 : decode cX12_planned 14 = .ok (.iload_n 1, 1) := by decide +kernel
theorem dX12_planned_15 : decode cX12_planned 15 = .ok (.invokevirtual 422, 3) := by decide +kernel
theorem dX12_planned_18 : decode cX12_planned 18 = .ok (.ifCond .eq 7, 3) := by decide +kernel
theorem dX12_planned_21 : decode cX12_planned 21 = .ok (.iconst 1, 1) := by decide +kernel
theorem dX12_planned_22 : decode cX12_planned 22 = .ok (.goto 4, 3) := by decide +kernel
theorem dX12_planned_25 : decode cX12_planned 25 = .ok (.iconst 0, 1) := by decide +kernel
theorem dX12_planned_26 : decode cX12_planned 26 = .ok (.iconst 1, 1) := by decide +kernel
theorem dX12_planned_27 : decode cX12_planned 27 = .ok (.invokevirtual 316, 3) := by decide +kernel
theorem dX12_planned_30 : decode cX12_planned 30 = .ok (.ifCond .eq 12, 3) := by decide +kernel
theorem dX12_planned_33 : decode cX12_planned 33 = .ok (.aload_n 0, 1) := by decide +kernel
theorem dX12_planned_34 : decode cX12_planned 34 = .ok (.getfield 106, 3) := by decide +kernel
theorem dX12_planned_37 : decode cX12_planned 37 = .ok (.iload_n 1, 1) := by decide +kernel
theorem dX12_planned_38 : decode cX12_planned 38 = .ok (.iaload, 1) := by decide +kernel
theorem dX12_planned_39 : decode cX12_planned 39 = .ok (.goto 4, 3) := by decide +kernel
theorem dX12_planned_42 : decode cX12_planned 42 = .ok (.iconst 0, 1) := by decide +kernel
theorem dX12_planned_43 : decode cX12_planned 43 = .ok (.ireturn, 1) := by decide +kernel
theorem dX12_enough_0 : decode cX12_enough 0 = .ok (.aload_n 0, 1) := by decide +kernel
theorem dX12_enough_1 : decode cX12_enough 1 = .ok (.iconst 0, 1) := by decide +kernel
theorem dX12_enough_2 : decode cX12_enough 2 = .ok (.putfield 127, 3) := by decide +kernel
theorem dX12_enough_5 : decode cX12_enough 5 = .ok (.aload_n 0, 1) := by decide +kernel
theorem dX12_enough_6 : decode cX12_enough 6 = .ok (.iload_n 1, 1) := by decide +kernel
theorem dX12_enough_7 : decode cX12_enough 7 = .ok (.iconst 0, 1) := by decide +kernel
theorem dX12_enough_8 : decode cX12_enough 8 = .ok (.sipush 1000, 3) := by decide +kernel
theorem dX12_enough_11 : decode cX12_enough 11 = .ok (.invokestatic 348, 3) := by decide +kernel
theorem dX12_enough_14 : decode cX12_enough 14 = .ok (.iconst 1, 1) := by decide +kernel
theorem dX12_enough_15 : decode cX12_enough 15 = .ok (.invokevirtual 316, 3) := by decide +kernel
theorem dX12_enough_18 : decode cX12_enough 18 = .ok (.ifCond .ne 5, 3) := by decide +kernel
theorem dX12_enough_21 : decode cX12_enough 21 = .ok (.iconst 0, 1) := by decide +kernel
theorem dX12_enough_22 : decode cX12_enough 22 = .ok (.ireturn, 1) := by decide +kernel
theorem dX12_enough_23 : decode cX12_enough 23 = .ok (.aload_n 0, 1) := by decide +kernel
theorem dX12_enough_24 : decode cX12_enough 24 = .ok (.invokevirtual 446, 3) := by decide +kernel
theorem dX12_enough_27 : decode cX12_enough 27 = .ok (.aload_n 0, 1) := by decide +kernel
theorem dX12_enough_28 : decode cX12_enough 28 = .ok (.getfield 100, 3) := by decide +kernel
theorem dX12_enough_31 : decode cX12_enough 31 = .ok (.invokestatic 438, 3) := by decide +kernel
theorem dX12_enough_34 : decode cX12_enough 34 = .ok (.ldc2_w 453, 3) := by decide +kernel
theorem dX12_enough_37 : decode cX12_enough 37 = .ok (.ldiv, 1) := by decide +kernel
theorem dX12_enough_38 : decode cX12_enough 38 = .ok (.iload_n 1, 1) := by decide +kernel
theorem dX12_enough_39 : decode cX12_enough 39 = .ok (.i2l, 1) := by decide +kernel
theorem dX12_enough_40 : decode cX12_enough 40 = .ok (.lmul, 1) := by decide +kernel
theorem dX12_enough_41 : decode cX12_enough 41 = .ok (.lstore_n 2, 1) := by decide +kernel
theorem dX12_enough_42 : decode cX12_enough 42 = .ok (.iconst 0, 1) := by decide +kernel
theorem dX12_enough_43 : decode cX12_enough 43 = .ok (.istore 4, 2) := by decide +kernel
theorem dX12_enough_45 : decode cX12_enough 45 = .ok (.iload 4, 2) := by decide +kernel
theorem dX12_enough_47 : decode cX12_enough 47 = .ok (.sipush 600, 3) := by decide +kernel
theorem dX12_enough_50 : decode cX12_enough 50 = .ok (.if_icmp .gt 40, 3) := by decide +kernel
theorem dX12_enough_53 : decode cX12_enough 53 = .ok (.aload_n 0, 1) := by decide +kernel
theorem dX12_enough_54 : decode cX12_enough 54 = .ok (.getfield 100, 3) := by decide +kernel
theorem dX12_enough_57 : decode cX12_enough 57 = .ok (.invokestatic 438, 3) := by decide +kernel
theorem dX12_enough_60 : decode cX12_enough 60 = .ok (.lload_n 2, 1) := by decide +kernel
theorem dX12_enough_61 : decode cX12_enough 61 = .ok (.lcmp, 1) := by decide +kernel
theorem dX12_enough_62 : decode cX12_enough 62 = .ok (.ifCond .gt 6, 3) := by decide +kernel
theorem dX12_enough_65 : decode cX12_enough 65 = .ok (.iload 4, 2) := by decide +kernel
theorem dX12_enough_67 : decode cX12_enough 67 = .ok (.ireturn, 1) := by decide +kernel
theorem dX12_enough_68 : decode cX12_enough 68 = .ok (.aload_n 0, 1) := by decide +kernel
theorem dX12_enough_69 : decode cX12_enough 69 = .ok (.aload_n 0, 1) := by decide +kernel
theorem dX12_enough_70 : decode cX12_enough 70 = .ok (.getfield 100, 3) := by decide +kernel
theorem dX12_enough_73 : decode cX12_enough 73 = .ok (.aload_n 0, 1) := by decide +kernel
theorem dX12_enough_74 : decode cX12_enough 74 = .ok (.aload_n 0, 1) := by decide +kernel
theorem dX12_enough_75 : decode cX12_enough 75 = .ok (.getfield 100, 3) := by decide +kernel
theorem dX12_enough_78 : decode cX12_enough 78 = .ok (.invokevirtual 449, 3) := by decide +kernel
theorem dX12_enough_81 : decode cX12_enough 81 = .ok (.invokevirtual 425, 3) := by decide +kernel
theorem dX12_enough_84 : decode cX12_enough 84 = .ok (.iinc 4 1, 3) := by decide +kernel
theorem dX12_enough_87 : decode cX12_enough 87 = .ok (.goto (-42), 3) := by decide +kernel
theorem dX12_enough_90 : decode cX12_enough 90 = .ok (.iconst (-1), 1) := by decide +kernel
theorem dX12_enough_91 : decode cX12_enough 91 = .ok (.ireturn, 1) := by decide +kernel
theorem dX12_draw_0 : decode cX12_draw 0 = .ok (.aload_n 0, 1) := by decide +kernel
theorem dX12_draw_1 : decode cX12_draw 1 = .ok (.aload_n 0, 1) := by decide +kernel
theorem dX12_draw_2 : decode cX12_draw 2 = .ok (.getfield 455, 3) := by decide +kernel
theorem dX12_draw_5 : decode cX12_draw 5 = .ok (.ldc_w 458, 3) := by decide +kernel
theorem dX12_draw_8 : decode cX12_draw 8 = .ok (.imul, 1) := by decide +kernel
theorem dX12_draw_9 : decode cX12_draw 9 = .ok (.sipush 12345, 3) := by decide +kernel
theorem dX12_draw_12 : decode cX12_draw 12 = .ok (.iadd, 1) := by decide +kernel
theorem dX12_draw_13 : decode cX12_draw 13 = .ok (.putfield 455, 3) := by decide +kernel
theorem dX12_draw_16 : decode cX12_draw 16 = .ok (.aload_n 0, 1) := by decide +kernel
theorem dX12_draw_17 : decode cX12_draw 17 = .ok (.getfield 455, 3) := by decide +kernel
theorem dX12_draw_20 : decode cX12_draw 20 = .ok (.bipush 16, 2) := by decide +kernel
theorem dX12_draw_22 : decode cX12_draw 22 = .ok (.ishr, 1) := by decide +kernel
theorem dX12_draw_23 : decode cX12_draw 23 = .ok (.sipush 32767, 3) := by decide +kernel
theorem dX12_draw_26 : decode cX12_draw 26 = .ok (.iand, 1) := by decide +kernel
theorem dX12_draw_27 : decode cX12_draw 27 = .ok (.iload_n 1, 1) := by decide +kernel
theorem dX12_draw_28 : decode cX12_draw 28 = .ok (.irem, 1) := by decide +kernel
theorem dX12_draw_29 : decode cX12_draw 29 = .ok (.ireturn, 1) := by decide +kernel
theorem dX12_shows_0 : decode cX12_shows 0 = .ok (.aload_n 0, 1) := by decide +kernel
theorem dX12_shows_1 : decode cX12_shows 1 = .ok (.iconst (-1), 1) := by decide +kernel
theorem dX12_shows_2 : decode cX12_shows 2 = .ok (.putfield 459, 3) := by decide +kernel
theorem dX12_shows_5 : decode cX12_shows 5 = .ok (.iconst 0, 1) := by decide +kernel
theorem dX12_shows_6 : decode cX12_shows 6 = .ok (.istore_n 3, 1) := by decide +kernel
theorem dX12_shows_7 : decode cX12_shows 7 = .ok (.iload_n 3, 1) := by decide +kernel
theorem dX12_shows_8 : decode cX12_shows 8 = .ok (.aload_n 0, 1) := by decide +kernel
theorem dX12_shows_9 : decode cX12_shows 9 = .ok (.getfield 329, 3) := by decide +kernel
theorem dX12_shows_12 : decode cX12_shows 12 = .ok (.if_icmp .ge 63, 3) := by decide +kernel
theorem dX12_shows_15 : decode cX12_shows 15 = .ok (.aload_n 0, 1) := by decide +kernel
theorem dX12_shows_16 : decode cX12_shows 16 = .ok (.iload_n 3, 1) := by decide +kernel
theorem dX12_shows_17 : decode cX12_shows 17 = .ok (.iload_n 2, 1) := by decide +kernel
theorem dX12_shows_18 : decode cX12_shows 18 = .ok (.invokevirtual 390, 3) := by decide +kernel
theorem dX12_shows_21 : decode cX12_shows 21 = .ok (.ifCond .eq 48, 3) := by decide +kernel
theorem dX12_shows_24 : decode cX12_shows 24 = .ok (.aload_n 0, 1) := by decide +kernel
theorem dX12_shows_25 : decode cX12_shows 25 = .ok (.aload_n 0, 1) := by decide +kernel
theorem dX12_shows_26 : decode cX12_shows 26 = .ok (.getfield 37, 3) := by decide +kernel
theorem dX12_shows_29 : decode cX12_shows 29 = .ok (.iconst 4, 1) := by decide +kernel
theorem dX12_shows_30 : decode cX12_shows 30 = .ok (.iload_n 3, 1) := by decide +kernel
theorem dX12_shows_31 : decode cX12_shows 31 = .ok (.imul, 1) := by decide +kernel
theorem dX12_shows_32 : decode cX12_shows 32 = .ok (.iaload, 1) := by decide +kernel
theorem dX12_shows_33 : decode cX12_shows 33 = .ok (.iload_n 1, 1) := by decide +kernel
theorem dX12_shows_34 : decode cX12_shows 34 = .ok (.invokevirtual 415, 3) := by decide +kernel
theorem dX12_shows_37 : decode cX12_shows 37 = .ok (.ifCond .ne 6, 3) := by decide +kernel
theorem dX12_shows_40 : decode cX12_shows 40 = .ok (.goto 29, 3) := by decide +kernel
theorem dX12_shows_43 : decode cX12_shows 43 = .ok (.aload_n 0, 1) := by decide +kernel
theorem dX12_shows_44 : decode cX12_shows 44 = .ok (.bipush 100, 2) := by decide +kernel
theorem dX12_shows_46 : decode cX12_shows 46 = .ok (.invokevirtual 462, 3) := by decide +kernel
theorem dX12_shows_49 : decode cX12_shows 49 = .ok (.aload_n 0, 1) := by decide +kernel
theorem dX12_shows_50 : decode cX12_shows 50 = .ok (.getfield 16, 3) := by decide +kernel
theorem dX12_shows_53 : decode cX12_shows 53 = .ok (.if_icmp .lt 16, 3) := by decide +kernel
theorem dX12_shows_56 : decode cX12_shows 56 = .ok (.aload_n 0, 1) := by decide +kernel
theorem dX12_shows_57 : decode cX12_shows 57 = .ok (.getfield 459, 3) := by decide +kernel
theorem dX12_shows_60 : decode cX12_shows 60 = .ok (.iconst (-1), 1) := by decide +kernel
theorem dX12_shows_61 : decode cX12_shows 61 = .ok (.if_icmp .ne 8, 3) := by decide +kernel
theorem dX12_shows_64 : decode cX12_shows 64 = .ok (.aload_n 0, 1) := by decide +kernel
theorem dX12_shows_65 : decode cX12_shows 65 = .ok (.iload_n 3, 1) := by decide +kernel
theorem dX12_shows_66 : decode cX12_shows 66 = .ok (.putfield 459, 3) := by decide +kernel
theorem dX12_shows_69 : decode cX12_shows 69 = .ok (.iinc 3 1, 3) := by decide +kernel
theorem dX12_shows_72 : decode cX12_shows 72 = .ok (.goto (-65), 3) := by decide +kernel
theorem dX12_shows_75 : decode cX12_shows 75 = .ok (.aload_n 0, 1) := by decide +kernel
theorem dX12_shows_76 : decode cX12_shows 76 = .ok (.getfield 459, 3) := by decide +kernel
theorem dX12_shows_79 : decode cX12_shows 79 = .ok (.iconst (-1), 1) := by decide +kernel
theorem dX12_shows_80 : decode cX12_shows 80 = .ok (.if_icmp .eq 7, 3) := by decide +kernel
theorem dX12_shows_83 : decode cX12_shows 83 = .ok (.iconst 1, 1) := by decide +kernel
theorem dX12_shows_84 : decode cX12_shows 84 = .ok (.goto 4, 3) := by decide +kernel
theorem dX12_shows_87 : decode cX12_shows 87 = .ok (.iconst 0, 1) := by decide +kernel
theorem dX12_shows_88 : decode cX12_shows 88 = .ok (.ireturn, 1) := by decide +kernel
theorem dX12_seeksBy_0 : decode cX12_seeksBy 0 = .ok (.aload_n 0, 1) := by decide +kernel
theorem dX12_seeksBy_1 : decode cX12_seeksBy 1 = .ok (.iload_n 1, 1) := by decide +kernel
theorem dX12_seeksBy_2 : decode cX12_seeksBy 2 = .ok (.putfield 455, 3) := by decide +kernel
theorem dX12_seeksBy_5 : decode cX12_seeksBy 5 = .ok (.aload_n 0, 1) := by decide +kernel
theorem dX12_seeksBy_6 : decode cX12_seeksBy 6 = .ok (.invokevirtual 446, 3) := by decide +kernel
theorem dX12_seeksBy_9 : decode cX12_seeksBy 9 = .ok (.aload_n 0, 1) := by decide +kernel
theorem dX12_seeksBy_10 : decode cX12_seeksBy 10 = .ok (.iconst 1, 1) := by decide +kernel
theorem dX12_seeksBy_11 : decode cX12_seeksBy 11 = .ok (.putfield 465, 3) := by decide +kernel
theorem dX12_seeksBy_14 : decode cX12_seeksBy 14 = .ok (.aload_n 0, 1) := by decide +kernel
theorem dX12_seeksBy_15 : decode cX12_seeksBy 15 = .ok (.getfield 465, 3) := by decide +kernel
theorem dX12_seeksBy_18 : decode cX12_seeksBy 18 = .ok (.sipush 600, 3) := by decide +kernel
theorem dX12_seeksBy_21 : decode cX12_seeksBy 21 = .ok (.if_icmp .gt 44, 3) := by decide +kernel
theorem dX12_seeksBy_24 : decode cX12_seeksBy 24 = .ok (.aload_n 0, 1) := by decide +kernel
theorem dX12_seeksBy_25 : decode cX12_seeksBy 25 = .ok (.aload_n 0, 1) := by decide +kernel
theorem dX12_seeksBy_26 : decode cX12_seeksBy 26 = .ok (.getfield 100, 3) := by decide +kernel
theorem dX12_seeksBy_29 : decode cX12_seeksBy 29 = .ok (.invokevirtual 449, 3) := by decide +kernel
theorem dX12_seeksBy_32 : decode cX12_seeksBy 32 = .ok (.istore_n 3, 1) := by decide +kernel
theorem dX12_seeksBy_33 : decode cX12_seeksBy 33 = .ok (.aload_n 0, 1) := by decide +kernel
theorem dX12_seeksBy_34 : decode cX12_seeksBy 34 = .ok (.iload_n 3, 1) := by decide +kernel
theorem dX12_seeksBy_35 : decode cX12_seeksBy 35 = .ok (.iload_n 2, 1) := by decide +kernel
theorem dX12_seeksBy_36 : decode cX12_seeksBy 36 = .ok (.invokevirtual 468, 3) := by decide +kernel
theorem dX12_seeksBy_39 : decode cX12_seeksBy 39 = .ok (.ifCond .eq 4, 3) := by decide +kernel
theorem dX12_seeksBy_42 : decode cX12_seeksBy 42 = .ok (.return_, 1) := by decide +kernel
theorem dX12_seeksBy_43 : decode cX12_seeksBy 43 = .ok (.aload_n 0, 1) := by decide +kernel
theorem dX12_seeksBy_44 : decode cX12_seeksBy 44 = .ok (.aload_n 0, 1) := by decide +kernel
theorem dX12_seeksBy_45 : decode cX12_seeksBy 45 = .ok (.getfield 100, 3) := by decide +kernel
theorem dX12_seeksBy_48 : decode cX12_seeksBy 48 = .ok (.iload_n 3, 1) := by decide +kernel
theorem dX12_seeksBy_49 : decode cX12_seeksBy 49 = .ok (.invokevirtual 425, 3) := by decide +kernel
theorem dX12_seeksBy_52 : decode cX12_seeksBy 52 = .ok (.aload_n 0, 1) := by decide +kernel
theorem dX12_seeksBy_53 : decode cX12_seeksBy 53 = .ok (.dup, 1) := by decide +kernel
theorem dX12_seeksBy_54 : decode cX12_seeksBy 54 = .ok (.getfield 465, 3) := by decide +kernel
theorem dX12_seeksBy_57 : decode cX12_seeksBy 57 = .ok (.iconst 1, 1) := by decide +kernel
theorem dX12_seeksBy_58 : decode cX12_seeksBy 58 = .ok (.iadd, 1) := by decide +kernel
theorem dX12_seeksBy_59 : decode cX12_seeksBy 59 = .ok (.putfield 465, 3) := by decide +kernel
theorem dX12_seeksBy_62 : decode cX12_seeksBy 62 = .ok (.goto (-48), 3) := by decide +kernel
theorem dX12_seeksBy_65 : decode cX12_seeksBy 65 = .ok (.aload_n 0, 1) := by decide +kernel
theorem dX12_seeksBy_66 : decode cX12_seeksBy 66 = .ok (.iconst (-1), 1) := by decide +kernel
theorem dX12_seeksBy_67 : decode cX12_seeksBy 67 = .ok (.putfield 465, 3) := by decide +kernel
theorem dX12_seeksBy_70 : decode cX12_seeksBy 70 = .ok (.return_, 1) := by decide +kernel
theorem dX12_seek_0 : decode cX12_seek 0 = .ok (.aload_n 0, 1) := by decide +kernel
theorem dX12_seek_1 : decode cX12_seek 1 = .ok (.iconst 0, 1) := by decide +kernel
theorem dX12_seek_2 : decode cX12_seek 2 = .ok (.putfield 127, 3) := by decide +kernel
theorem dX12_seek_5 : decode cX12_seek 5 = .ok (.aload_n 0, 1) := by decide +kernel
theorem dX12_seek_6 : decode cX12_seek 6 = .ok (.iload_n 3, 1) := by decide +kernel
theorem dX12_seek_7 : decode cX12_seek 7 = .ok (.iconst 1, 1) := by decide +kernel
theorem dX12_seek_8 : decode cX12_seek 8 = .ok (.invokevirtual 364, 3) := by decide +kernel
theorem dX12_seek_11 : decode cX12_seek 11 = .ok (.ifCond .ne 5, 3) := by decide +kernel
theorem dX12_seek_14 : decode cX12_seek 14 = .ok (.iconst 0, 1) := by decide +kernel
theorem dX12_seek_15 : decode cX12_seek 15 = .ok (.ireturn, 1) := by decide +kernel
theorem dX12_seek_16 : decode cX12_seek 16 = .ok (.aload_n 0, 1) := by decide +kernel
theorem dX12_seek_17 : decode cX12_seek 17 = .ok (.iload_n 1, 1) := by decide +kernel
theorem dX12_seek_18 : decode cX12_seek 18 = .ok (.iload_n 2, 1) := by decide +kernel
theorem dX12_seek_19 : decode cX12_seek 19 = .ok (.invokevirtual 471, 3) := by decide +kernel
theorem dX12_seek_22 : decode cX12_seek 22 = .ok (.iload_n 3, 1) := by decide +kernel
theorem dX12_seek_23 : decode cX12_seek 23 = .ok (.ifCond .ne 10, 3) := by decide +kernel
theorem dX12_seek_26 : decode cX12_seek 26 = .ok (.aload_n 0, 1) := by decide +kernel
theorem dX12_seek_27 : decode cX12_seek 27 = .ok (.getfield 465, 3) := by decide +kernel
theorem dX12_seek_30 : decode cX12_seek 30 = .ok (.goto 7, 3) := by decide +kernel
theorem dX12_seek_33 : decode cX12_seek 33 = .ok (.aload_n 0, 1) := by decide +kernel
theorem dX12_seek_34 : decode cX12_seek 34 = .ok (.getfield 459, 3) := by decide +kernel
theorem dX12_seek_37 : decode cX12_seek 37 = .ok (.ireturn, 1) := by decide +kernel
theorem dX12_seeks_0 : decode cX12_seeks 0 = .ok (.aload_n 0, 1) := by decide +kernel
theorem dX12_seeks_1 : decode cX12_seeks 1 = .ok (.iconst 0, 1) := by decide +kernel
theorem dX12_seeks_2 : decode cX12_seeks 2 = .ok (.putfield 127, 3) := by decide +kernel
theorem dX12_seeks_5 : decode cX12_seeks 5 = .ok (.aload_n 0, 1) := by decide +kernel
theorem dX12_seeks_6 : decode cX12_seeks 6 = .ok (.iload 4, 2) := by decide +kernel
theorem dX12_seeks_8 : decode cX12_seeks 8 = .ok (.iconst 2, 1) := by decide +kernel
theorem dX12_seeks_9 : decode cX12_seeks 9 = .ok (.invokevirtual 364, 3) := by decide +kernel
theorem dX12_seeks_12 : decode cX12_seeks 12 = .ok (.ifCond .eq 18, 3) := by decide +kernel
theorem dX12_seeks_15 : decode cX12_seeks 15 = .ok (.aload_n 0, 1) := by decide +kernel
theorem dX12_seeks_16 : decode cX12_seeks 16 = .ok (.iload_n 2, 1) := by decide +kernel
theorem dX12_seeks_17 : decode cX12_seeks 17 = .ok (.iconst 0, 1) := by decide +kernel
theorem dX12_seeks_18 : decode cX12_seeks 18 = .ok (.bipush 30, 2) := by decide +kernel
theorem dX12_seeks_20 : decode cX12_seeks 20 = .ok (.invokestatic 348, 3) := by decide +kernel
theorem dX12_seeks_23 : decode cX12_seeks 23 = .ok (.iconst 2, 1) := by decide +kernel
theorem dX12_seeks_24 : decode cX12_seeks 24 = .ok (.invokevirtual 316, 3) := by decide +kernel
theorem dX12_seeks_27 : decode cX12_seeks 27 = .ok (.ifCond .ne 5, 3) := by decide +kernel
theorem dX12_seeks_30 : decode cX12_seeks 30 = .ok (.iconst 0, 1) := by decide +kernel
theorem dX12_seeks_31 : decode cX12_seeks 31 = .ok (.ireturn, 1) := by decide +kernel
theorem dX12_seeks_32 : decode cX12_seeks 32 = .ok (.iconst 0, 1) := by decide +kernel
theorem dX12_seeks_33 : decode cX12_seeks 33 = .ok (.istore 5, 2) := by decide +kernel
theorem dX12_seeks_35 : decode cX12_seeks 35 = .ok (.iconst 0, 1) := by decide +kernel
theorem dX12_seeks_36 : decode cX12_seeks 36 = .ok (.istore 6, 2) := by decide +kernel
theorem dX12_seeks_38 : decode cX12_seeks 38 = .ok (.iconst 0, 1) := by decide +kernel
theorem dX12_seeks_39 : decode cX12_seeks 39 = .ok (.istore 7, 2) := by decide +kernel
theorem dX12_seeks_41 : decode cX12_seeks 41 = .ok (.iconst 0, 1) := by decide +kernel
theorem dX12_seeks_42 : decode cX12_seeks 42 = .ok (.istore 8, 2) := by decide +kernel
theorem dX12_seeks_44 : decode cX12_seeks 44 = .ok (.iload 8, 2) := by decide +kernel
theorem dX12_seeks_46 : decode cX12_seeks 46 = .ok (.iload_n 2, 1) := by decide +kernel
theorem dX12_seeks_47 : decode cX12_seeks 47 = .ok (.if_icmp .ge 61, 3) := by decide +kernel
theorem dX12_seeks_50 : decode cX12_seeks 50 = .ok (.aload_n 0, 1) := by decide +kernel
theorem dX12_seeks_51 : decode cX12_seeks 51 = .ok (.iload_n 1, 1) := by decide +kernel
theorem dX12_seeks_52 : decode cX12_seeks 52 = .ok (.iload 8, 2) := by decide +kernel
theorem dX12_seeks_54 : decode cX12_seeks 54 = .ok (.iadd, 1) := by decide +kernel
theorem dX12_seeks_55 : decode cX12_seeks 55 = .ok (.iload_n 3, 1) := by decide +kernel
theorem dX12_seeks_56 : decode cX12_seeks 56 = .ok (.invokevirtual 471, 3) := by decide +kernel
theorem dX12_seeks_59 : decode cX12_seeks 59 = .ok (.aload_n 0, 1) := by decide +kernel
theorem dX12_seeks_60 : decode cX12_seeks 60 = .ok (.getfield 465, 3) := by decide +kernel
theorem dX12_seeks_63 : decode cX12_seeks 63 = .ok (.iconst (-1), 1) := by decide +kernel
theorem dX12_seeks_64 : decode cX12_seeks 64 = .ok (.if_icmp .ne 6, 3) := by decide +kernel
theorem dX12_seeks_67 : decode cX12_seeks 67 = .ok (.goto 35, 3) := by decide +kernel
theorem dX12_seeks_70 : decode cX12_seeks 70 = .ok (.iinc 5 1, 3) := by decide +kernel
theorem dX12_seeks_73 : decode cX12_seeks 73 = .ok (.iload 6, 2) := by decide +kernel
theorem dX12_seeks_75 : decode cX12_seeks 75 = .ok (.aload_n 0, 1) := by decide +kernel
theorem dX12_seeks_76 : decode cX12_seeks 76 = .ok (.getfield 465, 3) := by decide +kernel
theorem dX12_seeks_79 : decode cX12_seeks 79 = .ok (.iadd, 1) := by decide +kernel
theorem dX12_seeks_80 : decode cX12_seeks 80 = .ok (.istore 6, 2) := by decide +kernel
theorem dX12_seeks_82 : decode cX12_seeks 82 = .ok (.aload_n 0, 1) := by decide +kernel
theorem dX12_seeks_83 : decode cX12_seeks 83 = .ok (.getfield 465, 3) := by decide +kernel
theorem dX12_seeks_86 : decode cX12_seeks 86 = .ok (.iload 7, 2) := by decide +kernel
theorem dX12_seeks_88 : decode cX12_seeks 88 = .ok (.if_icmp .le 10, 3) := by decide +kernel
theorem dX12_seeks_91 : decode cX12_seeks 91 = .ok (.aload_n 0, 1) := by decide +kernel
theorem dX12_seeks_92 : decode cX12_seeks 92 = .ok (.getfield 465, 3) := by decide +kernel
theorem dX12_seeks_95 : decode cX12_seeks 95 = .ok (.goto 5, 3) := by decide +kernel
theorem dX12_seeks_98 : decode cX12_seeks 98 = .ok (.iload 7, 2) := by decide +kernel
theorem dX12_seeks_100 : decode cX12_seeks 100 = .ok (.istore 7, 2) := by decide +kernel
theorem dX12_seeks_102 : decode cX12_seeks 102 = .ok (.iinc 8 1, 3) := by decide +kernel
theorem dX12_seeks_105 : decode cX12_seeks 105 = .ok (.goto (-61), 3) := by decide +kernel
theorem dX12_seeks_108 : decode cX12_seeks 108 = .ok (.iload 4, 2) := by decide +kernel
theorem dX12_seeks_110 : decode cX12_seeks 110 = .ok (.ifCond .ne 8, 3) := by decide +kernel
theorem dX12_seeks_113 : decode cX12_seeks 113 = .ok (.iload 5, 2) := by decide +kernel
theorem dX12_seeks_115 : decode cX12_seeks 115 = .ok (.goto 16, 3) := by decide +kernel
theorem dX12_seeks_118 : decode cX12_seeks 118 = .ok (.iload 4, 2) := by decide +kernel
theorem dX12_seeks_120 : decode cX12_seeks 120 = .ok (.iconst 1, 1) := by decide +kernel
theorem dX12_seeks_121 : decode cX12_seeks 121 = .ok (.if_icmp .ne 8, 3) := by decide +kernel
theorem dX12_seeks_124 : decode cX12_seeks 124 = .ok (.iload 6, 2) := by decide +kernel
theorem dX12_seeks_126 : decode cX12_seeks 126 = .ok (.goto 5, 3) := by decide +kernel
theorem dX12_seeks_129 : decode cX12_seeks 129 = .ok (.iload 7, 2) := by decide +kernel
theorem dX12_seeks_131 : decode cX12_seeks 131 = .ok (.ireturn, 1) := by decide +kernel
theorem dX12_sweep_0 : decode cX12_sweep 0 = .ok (.aload_n 0, 1) := by decide +kernel
theorem dX12_sweep_1 : decode cX12_sweep 1 = .ok (.iconst 0, 1) := by decide +kernel
theorem dX12_sweep_2 : decode cX12_sweep 2 = .ok (.putfield 127, 3) := by decide +kernel
theorem dX12_sweep_5 : decode cX12_sweep 5 = .ok (.aload_n 0, 1) := by decide +kernel
theorem dX12_sweep_6 : decode cX12_sweep 6 = .ok (.iload 4, 2) := by decide +kernel
theorem dX12_sweep_8 : decode cX12_sweep 8 = .ok (.iconst 1, 1) := by decide +kernel
theorem dX12_sweep_9 : decode cX12_sweep 9 = .ok (.invokevirtual 364, 3) := by decide +kernel
theorem dX12_sweep_12 : decode cX12_sweep 12 = .ok (.ifCond .eq 18, 3) := by decide +kernel
theorem dX12_sweep_15 : decode cX12_sweep 15 = .ok (.aload_n 0, 1) := by decide +kernel
theorem dX12_sweep_16 : decode cX12_sweep 16 = .ok (.iload_n 3, 1) := by decide +kernel
theorem dX12_sweep_17 : decode cX12_sweep 17 = .ok (.iconst 1, 1) := by decide +kernel
theorem dX12_sweep_18 : decode cX12_sweep 18 = .ok (.bipush 60, 2) := by decide +kernel
theorem dX12_sweep_20 : decode cX12_sweep 20 = .ok (.invokestatic 348, 3) := by decide +kernel
theorem dX12_sweep_23 : decode cX12_sweep 23 = .ok (.iconst 2, 1) := by decide +kernel
theorem dX12_sweep_24 : decode cX12_sweep 24 = .ok (.invokevirtual 316, 3) := by decide +kernel
theorem dX12_sweep_27 : decode cX12_sweep 27 = .ok (.ifCond .ne 5, 3) := by decide +kernel
theorem dX12_sweep_30 : decode cX12_sweep 30 = .ok (.iconst 0, 1) := by decide +kernel
theorem dX12_sweep_31 : decode cX12_sweep 31 = .ok (.ireturn, 1) := by decide +kernel
theorem dX12_sweep_32 : decode cX12_sweep 32 = .ok (.aload_n 0, 1) := by decide +kernel
theorem dX12_sweep_33 : decode cX12_sweep 33 = .ok (.iload_n 1, 1) := by decide +kernel
theorem dX12_sweep_34 : decode cX12_sweep 34 = .ok (.putfield 455, 3) := by decide +kernel
theorem dX12_sweep_37 : decode cX12_sweep 37 = .ok (.aload_n 0, 1) := by decide +kernel
theorem dX12_sweep_38 : decode cX12_sweep 38 = .ok (.getfield 7, 3) := by decide +kernel
theorem dX12_sweep_41 : decode cX12_sweep 41 = .ok (.aload_n 0, 1) := by decide +kernel
theorem dX12_sweep_42 : decode cX12_sweep 42 = .ok (.getfield 13, 3) := by decide +kernel
theorem dX12_sweep_45 : decode cX12_sweep 45 = .ok (.iadd, 1) := by decide +kernel
theorem dX12_sweep_46 : decode cX12_sweep 46 = .ok (.iconst 1, 1) := by decide +kernel
theorem dX12_sweep_47 : decode cX12_sweep 47 = .ok (.isub, 1) := by decide +kernel
theorem dX12_sweep_48 : decode cX12_sweep 48 = .ok (.aload_n 0, 1) := by decide +kernel
theorem dX12_sweep_49 : decode cX12_sweep 49 = .ok (.getfield 13, 3) := by decide +kernel
theorem dX12_sweep_52 : decode cX12_sweep 52 = .ok (.idiv, 1) := by decide +kernel
theorem dX12_sweep_53 : decode cX12_sweep 53 = .ok (.istore 5, 2) := by decide +kernel
theorem dX12_sweep_55 : decode cX12_sweep 55 = .ok (.iconst 0, 1) := by decide +kernel
theorem dX12_sweep_56 : decode cX12_sweep 56 = .ok (.istore 6, 2) := by decide +kernel
theorem dX12_sweep_58 : decode cX12_sweep 58 = .ok (.iload 6, 2) := by decide +kernel
theorem dX12_sweep_60 : decode cX12_sweep 60 = .ok (.sipush 600, 3) := by decide +kernel
theorem dX12_sweep_63 : decode cX12_sweep 63 = .ok (.if_icmp .ge 46, 3) := by decide +kernel
theorem dX12_sweep_66 : decode cX12_sweep 66 = .ok (.aload_n 0, 1) := by decide +kernel
theorem dX12_sweep_67 : decode cX12_sweep 67 = .ok (.aload_n 0, 1) := by decide +kernel
theorem dX12_sweep_68 : decode cX12_sweep 68 = .ok (.getfield 13, 3) := by decide +kernel
theorem dX12_sweep_71 : decode cX12_sweep 71 = .ok (.iload 6, 2) := by decide +kernel
theorem dX12_sweep_73 : decode cX12_sweep 73 = .ok (.iload_n 3, 1) := by decide +kernel
theorem dX12_sweep_74 : decode cX12_sweep 74 = .ok (.idiv, 1) := by decide +kernel
theorem dX12_sweep_75 : decode cX12_sweep 75 = .ok (.iload 5, 2) := by decide +kernel
theorem dX12_sweep_77 : decode cX12_sweep 77 = .ok (.irem, 1) := by decide +kernel
theorem dX12_sweep_78 : decode cX12_sweep 78 = .ok (.imul, 1) := by decide +kernel
theorem dX12_sweep_79 : decode cX12_sweep 79 = .ok (.iload_n 2, 1) := by decide +kernel
theorem dX12_sweep_80 : decode cX12_sweep 80 = .ok (.invokevirtual 468, 3) := by decide +kernel
theorem dX12_sweep_83 : decode cX12_sweep 83 = .ok (.ifCond .eq 20, 3) := by decide +kernel
theorem dX12_sweep_86 : decode cX12_sweep 86 = .ok (.iload 4, 2) := by decide +kernel
theorem dX12_sweep_88 : decode cX12_sweep 88 = .ok (.ifCond .ne 10, 3) := by decide +kernel
theorem dX12_sweep_91 : decode cX12_sweep 91 = .ok (.iload 6, 2) := by decide +kernel
theorem dX12_sweep_93 : decode cX12_sweep 93 = .ok (.iconst 1, 1) := by decide +kernel
theorem dX12_sweep_94 : decode cX12_sweep 94 = .ok (.iadd, 1) := by decide +kernel
theorem dX12_sweep_95 : decode cX12_sweep 95 = .ok (.goto 7, 3) := by decide +kernel
theorem dX12_sweep_98 : decode cX12_sweep 98 = .ok (.aload_n 0, 1) := by decide +kernel
theorem dX12_sweep_99 : decode cX12_sweep 99 = .ok (.getfield 459, 3) := by decide +kernel
theorem dX12_sweep_102 : decode cX12_sweep 102 = .ok (.ireturn, 1) := by decide +kernel
theorem dX12_sweep_103 : decode cX12_sweep 103 = .ok (.iinc 6 1, 3) := by decide +kernel
theorem dX12_sweep_106 : decode cX12_sweep 106 = .ok (.goto (-48), 3) := by decide +kernel
theorem dX12_sweep_109 : decode cX12_sweep 109 = .ok (.iconst (-1), 1) := by decide +kernel
theorem dX12_sweep_110 : decode cX12_sweep 110 = .ok (.ireturn, 1) := by decide +kernel
theorem dX12_airBy_0 : decode cX12_airBy 0 = .ok (.aload_n 0, 1) := by decide +kernel
theorem dX12_airBy_1 : decode cX12_airBy 1 = .ok (.getfield 25, 3) := by decide +kernel
theorem dX12_airBy_4 : decode cX12_airBy 4 = .ok (.i2l, 1) := by decide +kernel
theorem dX12_airBy_5 : decode cX12_airBy 5 = .ok (.ldc2_w 374, 3) := by decide +kernel
theorem dX12_airBy_8 : decode cX12_airBy 8 = .ok (.lmul, 1) := by decide +kernel
theorem dX12_airBy_9 : decode cX12_airBy 9 = .ok (.lstore_n 2, 1) := by decide +kernel
theorem dX12_airBy_10 : decode cX12_airBy 10 = .ok (.iconst 0, 1) := by decide +kernel
theorem dX12_airBy_11 : decode cX12_airBy 11 = .ok (.istore 4, 2) := by decide +kernel
theorem dX12_airBy_13 : decode cX12_airBy 13 = .ok (.iload 4, 2) := by decide +kernel
theorem dX12_airBy_15 : decode cX12_airBy 15 = .ok (.iload_n 1, 1) := by decide +kernel
theorem dX12_airBy_16 : decode cX12_airBy 16 = .ok (.if_icmp .ge 21, 3) := by decide +kernel
theorem dX12_airBy_19 : decode cX12_airBy 19 = .ok (.lload_n 2, 1) := by decide +kernel
theorem dX12_airBy_20 : decode cX12_airBy 20 = .ok (.aload_n 0, 1) := by decide +kernel
theorem dX12_airBy_21 : decode cX12_airBy 21 = .ok (.getfield 28, 3) := by decide +kernel
theorem dX12_airBy_24 : decode cX12_airBy 24 = .ok (.i2l, 1) := by decide +kernel
theorem dX12_airBy_25 : decode cX12_airBy 25 = .ok (.lmul, 1) := by decide +kernel
theorem dX12_airBy_26 : decode cX12_airBy 26 = .ok (.ldc2_w 418, 3) := by decide +kernel
theorem dX12_airBy_29 : decode cX12_airBy 29 = .ok (.ldiv, 1) := by decide +kernel
theorem dX12_airBy_30 : decode cX12_airBy 30 = .ok (.lstore_n 2, 1) := by decide +kernel
theorem dX12_airBy_31 : decode cX12_airBy 31 = .ok (.iinc 4 1, 3) := by decide +kernel
theorem dX12_airBy_34 : decode cX12_airBy 34 = .ok (.goto (-21), 3) := by decide +kernel
theorem dX12_airBy_37 : decode cX12_airBy 37 = .ok (.bipush 100, 2) := by decide +kernel
theorem dX12_airBy_39 : decode cX12_airBy 39 = .ok (.aload_n 0, 1) := by decide +kernel
theorem dX12_airBy_40 : decode cX12_airBy 40 = .ok (.getfield 25, 3) := by decide +kernel
theorem dX12_airBy_43 : decode cX12_airBy 43 = .ok (.isub, 1) := by decide +kernel
theorem dX12_airBy_44 : decode cX12_airBy 44 = .ok (.i2l, 1) := by decide +kernel
theorem dX12_airBy_45 : decode cX12_airBy 45 = .ok (.ldc2_w 374, 3) := by decide +kernel
theorem dX12_airBy_48 : decode cX12_airBy 48 = .ok (.lmul, 1) := by decide +kernel
theorem dX12_airBy_49 : decode cX12_airBy 49 = .ok (.lstore 4, 2) := by decide +kernel
theorem dX12_airBy_51 : decode cX12_airBy 51 = .ok (.lload 4, 2) := by decide +kernel
theorem dX12_airBy_53 : decode cX12_airBy 53 = .ok (.ldc2_w 453, 3) := by decide +kernel
theorem dX12_airBy_56 : decode cX12_airBy 56 = .ok (.lmul, 1) := by decide +kernel
theorem dX12_airBy_57 : decode cX12_airBy 57 = .ok (.lload 4, 2) := by decide +kernel
theorem dX12_airBy_59 : decode cX12_airBy 59 = .ok (.lload_n 2, 1) := by decide +kernel
theorem dX12_airBy_60 : decode cX12_airBy 60 = .ok (.ladd, 1) := by decide +kernel
theorem dX12_airBy_61 : decode cX12_airBy 61 = .ok (.ldiv, 1) := by decide +kernel
theorem dX12_airBy_62 : decode cX12_airBy 62 = .ok (.l2i, 1) := by decide +kernel
theorem dX12_airBy_63 : decode cX12_airBy 63 = .ok (.ireturn, 1) := by decide +kernel
theorem dX12_air_0 : decode cX12_air 0 = .ok (.aload_n 0, 1) := by decide +kernel
theorem dX12_air_1 : decode cX12_air 1 = .ok (.iconst 0, 1) := by decide +kernel
theorem dX12_air_2 : decode cX12_air 2 = .ok (.putfield 127, 3) := by decide +kernel
theorem dX12_air_5 : decode cX12_air 5 = .ok (.aload_n 0, 1) := by decide +kernel
theorem dX12_air_6 : decode cX12_air 6 = .ok (.iload_n 1, 1) := by decide +kernel
theorem dX12_air_7 : decode cX12_air 7 = .ok (.iconst 0, 1) := by decide +kernel
theorem dX12_air_8 : decode cX12_air 8 = .ok (.bipush 60, 2) := by decide +kernel
theorem dX12_air_10 : decode cX12_air 10 = .ok (.invokestatic 348, 3) := by decide +kernel
theorem dX12_air_13 : decode cX12_air 13 = .ok (.iconst 1, 1) := by decide +kernel
theorem dX12_air_14 : decode cX12_air 14 = .ok (.invokevirtual 316, 3) := by decide +kernel
theorem dX12_air_17 : decode cX12_air 17 = .ok (.ifCond .eq 11, 3) := by decide +kernel
theorem dX12_air_20 : decode cX12_air 20 = .ok (.aload_n 0, 1) := by decide +kernel
theorem dX12_air_21 : decode cX12_air 21 = .ok (.iload_n 1, 1) := by decide +kernel
theorem dX12_air_22 : decode cX12_air 22 = .ok (.invokevirtual 475, 3) := by decide +kernel
theorem dX12_air_25 : decode cX12_air 25 = .ok (.goto 4, 3) := by decide +kernel
theorem dX12_air_28 : decode cX12_air 28 = .ok (.iconst 0, 1) := by decide +kernel
theorem dX12_air_29 : decode cX12_air 29 = .ok (.ireturn, 1) := by decide +kernel
theorem dX12_line_0 : decode cX12_line 0 = .ok (.aload_n 0, 1) := by decide +kernel
theorem dX12_line_1 : decode cX12_line 1 = .ok (.iconst 0, 1) := by decide +kernel
theorem dX12_line_2 : decode cX12_line 2 = .ok (.putfield 127, 3) := by decide +kernel
theorem dX12_line_5 : decode cX12_line 5 = .ok (.aload_n 0, 1) := by decide +kernel
theorem dX12_line_6 : decode cX12_line 6 = .ok (.iload_n 1, 1) := by decide +kernel
theorem dX12_line_7 : decode cX12_line 7 = .ok (.iconst 0, 1) := by decide +kernel
theorem dX12_line_8 : decode cX12_line 8 = .ok (.sipush 1000, 3) := by decide +kernel
theorem dX12_line_11 : decode cX12_line 11 = .ok (.invokestatic 348, 3) := by decide +kernel
theorem dX12_line_14 : decode cX12_line 14 = .ok (.iconst 1, 1) := by decide +kernel
theorem dX12_line_15 : decode cX12_line 15 = .ok (.invokevirtual 316, 3) := by decide +kernel
theorem dX12_line_18 : decode cX12_line 18 = .ok (.ifCond .ne 5, 3) := by decide +kernel
theorem dX12_line_21 : decode cX12_line 21 = .ok (.iconst 0, 1) := by decide +kernel
theorem dX12_line_22 : decode cX12_line 22 = .ok (.ireturn, 1) := by decide +kernel
theorem dX12_line_23 : decode cX12_line 23 = .ok (.iconst 0, 1) := by decide +kernel
theorem dX12_line_24 : decode cX12_line 24 = .ok (.istore_n 2, 1) := by decide +kernel
theorem dX12_line_25 : decode cX12_line 25 = .ok (.iload_n 2, 1) := by decide +kernel
theorem dX12_line_26 : decode cX12_line 26 = .ok (.bipush 60, 2) := by decide +kernel
theorem dX12_line_28 : decode cX12_line 28 = .ok (.if_icmp .gt 20, 3) := by decide +kernel
theorem dX12_line_31 : decode cX12_line 31 = .ok (.aload_n 0, 1) := by decide +kernel
theorem dX12_line_32 : decode cX12_line 32 = .ok (.iload_n 2, 1) := by decide +kernel
theorem dX12_line_33 : decode cX12_line 33 = .ok (.invokevirtual 475, 3) := by decide +kernel
theorem dX12_line_36 : decode cX12_line 36 = .ok (.iload_n 1, 1) := by decide +kernel
theorem dX12_line_37 : decode cX12_line 37 = .ok (.if_icmp .lt 5, 3) := by decide +kernel
theorem dX12_line_40 : decode cX12_line 40 = .ok (.iload_n 2, 1) := by decide +kernel
theorem dX12_line_41 : decode cX12_line 41 = .ok (.ireturn, 1) := by decide +kernel
theorem dX12_line_42 : decode cX12_line 42 = .ok (.iinc 2 1, 3) := by decide +kernel
theorem dX12_line_45 : decode cX12_line 45 = .ok (.goto (-20), 3) := by decide +kernel
theorem dX12_line_48 : decode cX12_line 48 = .ok (.iconst (-1), 1) := by decide +kernel
theorem dX12_line_49 : decode cX12_line 49 = .ok (.ireturn, 1) := by decide +kernel
theorem dX12_holdsOf_0 : decode cX12_holdsOf 0 = .ok (.aload_n 0, 1) := by decide +kernel
theorem dX12_holdsOf_1 : decode cX12_holdsOf 1 = .ok (.getfield 34, 3) := by decide +kernel
theorem dX12_holdsOf_4 : decode cX12_holdsOf 4 = .ok (.iconst (-1), 1) := by decide +kernel
theorem dX12_holdsOf_5 : decode cX12_holdsOf 5 = .ok (.if_icmp .ne 13, 3) := by decide +kernel
theorem dX12_holdsOf_8 : decode cX12_holdsOf 8 = .ok (.iload_n 2, 1) := by decide +kernel
theorem dX12_holdsOf_9 : decode cX12_holdsOf 9 = .ok (.bipush 12, 2) := by decide +kernel
theorem dX12_holdsOf_11 : decode cX12_holdsOf 11 = .ok (.imul, 1) := by decide +kernel
theorem dX12_holdsOf_12 : decode cX12_holdsOf 12 = .ok (.bipush 100, 2) := by decide +kernel
theorem dX12_holdsOf_14 : decode cX12_holdsOf 14 = .ok (.invokestatic 384, 3) := by decide +kernel
theorem dX12_holdsOf_17 : decode cX12_holdsOf 17 = .ok (.ireturn, 1) := by decide +kernel
theorem dX12_holdsOf_18 : decode cX12_holdsOf 18 = .ok (.iconst 0, 1) := by decide +kernel
theorem dX12_holdsOf_19 : decode cX12_holdsOf 19 = .ok (.istore 5, 2) := by decide +kernel
theorem dX12_holdsOf_21 : decode cX12_holdsOf 21 = .ok (.iconst 0, 1) := by decide +kernel
theorem dX12_holdsOf_22 : decode cX12_holdsOf 22 = .ok (.istore 6, 2) := by decide +kernel
theorem dX12_holdsOf_24 : decode cX12_holdsOf 24 = .ok (.iload 6, 2) := by decide +kernel
theorem dX12_holdsOf_26 : decode cX12_holdsOf 26 = .ok (.aload_n 0, 1) := by decide +kernel
theorem dX12_holdsOf_27 : decode cX12_holdsOf 27 = .ok (.getfield 329, 3) := by decide +kernel
theorem dX12_holdsOf_30 : decode cX12_holdsOf 30 = .ok (.if_icmp .ge 50, 3) := by decide +kernel
theorem dX12_holdsOf_33 : decode cX12_holdsOf 33 = .ok (.iload 5, 2) := by decide +kernel
theorem dX12_holdsOf_35 : decode cX12_holdsOf 35 = .ok (.iload 6, 2) := by decide +kernel
theorem dX12_holdsOf_37 : decode cX12_holdsOf 37 = .ok (.iload_n 1, 1) := by decide +kernel
theorem dX12_holdsOf_38 : decode cX12_holdsOf 38 = .ok (.if_icmp .eq 32, 3) := by decide +kernel
theorem dX12_holdsOf_41 : decode cX12_holdsOf 41 = .ok (.aload_n 0, 1) := by decide +kernel
theorem dX12_holdsOf_42 : decode cX12_holdsOf 42 = .ok (.aload_n 0, 1) := by decide +kernel
theorem dX12_holdsOf_43 : decode cX12_holdsOf 43 = .ok (.getfield 37, 3) := by decide +kernel
theorem dX12_holdsOf_46 : decode cX12_holdsOf 46 = .ok (.iconst 4, 1) := by decide +kernel
theorem dX12_holdsOf_47 : decode cX12_holdsOf 47 = .ok (.iload 6, 2) := by decide +kernel
theorem dX12_holdsOf_49 : decode cX12_holdsOf 49 = .ok (.imul, 1) := by decide +kernel
theorem dX12_holdsOf_50 : decode cX12_holdsOf 50 = .ok (.iaload, 1) := by decide +kernel
theorem dX12_holdsOf_51 : decode cX12_holdsOf 51 = .ok (.aload_n 0, 1) := by decide +kernel
theorem dX12_holdsOf_52 : decode cX12_holdsOf 52 = .ok (.getfield 37, 3) := by decide +kernel
theorem dX12_holdsOf_55 : decode cX12_holdsOf 55 = .ok (.iconst 4, 1) := by decide +kernel
theorem dX12_holdsOf_56 : decode cX12_holdsOf 56 = .ok (.iload_n 1, 1) := by decide +kernel
theorem dX12_holdsOf_57 : decode cX12_holdsOf 57 = .ok (.imul, 1) := by decide +kernel
theorem dX12_holdsOf_58 : decode cX12_holdsOf 58 = .ok (.iaload, 1) := by decide +kernel
theorem dX12_holdsOf_59 : decode cX12_holdsOf 59 = .ok (.invokevirtual 478, 3) := by decide +kernel
theorem dX12_holdsOf_62 : decode cX12_holdsOf 62 = .ok (.iconst 2, 1) := by decide +kernel
theorem dX12_holdsOf_63 : decode cX12_holdsOf 63 = .ok (.if_icmp .gt 7, 3) := by decide +kernel
theorem dX12_holdsOf_66 : decode cX12_holdsOf 66 = .ok (.iconst 1, 1) := by decide +kernel
theorem dX12_holdsOf_67 : decode cX12_holdsOf 67 = .ok (.goto 4, 3) := by decide +kernel
theorem dX12_holdsOf_70 : decode cX12_holdsOf 70 = .ok (.iconst 0, 1) := by decide +kernel
theorem dX12_holdsOf_71 : decode cX12_holdsOf 71 = .ok (.iadd, 1) := by decide +kernel
theorem dX12_holdsOf_72 : decode cX12_holdsOf 72 = .ok (.istore 5, 2) := by decide +kernel
theorem dX12_holdsOf_74 : decode cX12_holdsOf 74 = .ok (.iinc 6 1, 3) := by decide +kernel
theorem dX12_holdsOf_77 : decode cX12_holdsOf 77 = .ok (.goto (-53), 3) := by decide +kernel
theorem dX12_holdsOf_80 : decode cX12_holdsOf 80 = .ok (.aload_n 0, 1) := by decide +kernel
theorem dX12_holdsOf_81 : decode cX12_holdsOf 81 = .ok (.getfield 94, 3) := by decide +kernel
theorem dX12_holdsOf_84 : decode cX12_holdsOf 84 = .ok (.iconst 0, 1) := by decide +kernel
theorem dX12_holdsOf_85 : decode cX12_holdsOf 85 = .ok (.aload_n 0, 1) := by decide +kernel
theorem dX12_holdsOf_86 : decode cX12_holdsOf 86 = .ok (.getfield 37, 3) := by decide +kernel
theorem dX12_holdsOf_89 : decode cX12_holdsOf 89 = .ok (.iconst 4, 1) := by decide +kernel
theorem dX12_holdsOf_90 : decode cX12_holdsOf 90 = .ok (.iload_n 1, 1) := by decide +kernel
theorem dX12_holdsOf_91 : decode cX12_holdsOf 91 = .ok (.imul, 1) := by decide +kernel
theorem dX12_holdsOf_92 : decode cX12_holdsOf 92 = .ok (.iconst 2, 1) := by decide +kernel
theorem dX12_holdsOf_93 : decode cX12_holdsOf 93 = .ok (.iadd, 1) := by decide +kernel
theorem dX12_holdsOf_94 : decode cX12_holdsOf 94 = .ok (.iaload, 1) := by decide +kernel
theorem dX12_holdsOf_95 : decode cX12_holdsOf 95 = .ok (.iastore, 1) := by decide +kernel
theorem dX12_holdsOf_96 : decode cX12_holdsOf 96 = .ok (.aload_n 0, 1) := by decide +kernel
theorem dX12_holdsOf_97 : decode cX12_holdsOf 97 = .ok (.getfield 94, 3) := by decide +kernel
theorem dX12_holdsOf_100 : decode cX12_holdsOf 100 = .ok (.iconst 1, 1) := by decide +kernel
theorem dX12_holdsOf_101 : decode cX12_holdsOf 101 = .ok (.aload_n 0, 1) := by decide +kernel
theorem dX12_holdsOf_102 : decode cX12_holdsOf 102 = .ok (.getfield 37, 3) := by decide +kernel
theorem dX12_holdsOf_105 : decode cX12_holdsOf 105 = .ok (.iconst 4, 1) := by decide +kernel
theorem dX12_holdsOf_106 : decode cX12_holdsOf 106 = .ok (.iload_n 1, 1) := by decide +kernel
theorem dX12_holdsOf_107 : decode cX12_holdsOf 107 = .ok (.imul, 1) := by decide +kernel
theorem dX12_holdsOf_108 : decode cX12_holdsOf 108 = .ok (.iconst 1, 1) := by decide +kernel
theorem dX12_holdsOf_109 : decode cX12_holdsOf 109 = .ok (.iadd, 1) := by decide +kernel
theorem dX12_holdsOf_110 : decode cX12_holdsOf 110 = .ok (.iaload, 1) := by decide +kernel
theorem dX12_holdsOf_111 : decode cX12_holdsOf 111 = .ok (.iastore, 1) := by decide +kernel
theorem dX12_holdsOf_112 : decode cX12_holdsOf 112 = .ok (.aload_n 0, 1) := by decide +kernel
theorem dX12_holdsOf_113 : decode cX12_holdsOf 113 = .ok (.getfield 94, 3) := by decide +kernel
theorem dX12_holdsOf_116 : decode cX12_holdsOf 116 = .ok (.iconst 5, 1) := by decide +kernel
theorem dX12_holdsOf_117 : decode cX12_holdsOf 117 = .ok (.iload_n 2, 1) := by decide +kernel
theorem dX12_holdsOf_118 : decode cX12_holdsOf 118 = .ok (.iastore, 1) := by decide +kernel
theorem dX12_holdsOf_119 : decode cX12_holdsOf 119 = .ok (.aload_n 0, 1) := by decide +kernel
theorem dX12_holdsOf_120 : decode cX12_holdsOf 120 = .ok (.getfield 94, 3) := by decide +kernel
theorem dX12_holdsOf_123 : decode cX12_holdsOf 123 = .ok (.bipush 6, 2) := by decide +kernel
theorem dX12_holdsOf_125 : decode cX12_holdsOf 125 = .ok (.iload_n 3, 1) := by decide +kernel
theorem dX12_holdsOf_126 : decode cX12_holdsOf 126 = .ok (.iastore, 1) := by decide +kernel
theorem dX12_holdsOf_127 : decode cX12_holdsOf 127 = .ok (.aload_n 0, 1) := by decide +kernel
theorem dX12_holdsOf_128 : decode cX12_holdsOf 128 = .ok (.getfield 94, 3) := by decide +kernel
theorem dX12_holdsOf_131 : decode cX12_holdsOf 131 = .ok (.bipush 7, 2) := by decide +kernel
theorem dX12_holdsOf_133 : decode cX12_holdsOf 133 = .ok (.iload 4, 2) := by decide +kernel
theorem dX12_holdsOf_135 : decode cX12_holdsOf 135 = .ok (.iastore, 1) := by decide +kernel
theorem dX12_holdsOf_136 : decode cX12_holdsOf 136 = .ok (.aload_n 0, 1) := by decide +kernel
theorem dX12_holdsOf_137 : decode cX12_holdsOf 137 = .ok (.getfield 94, 3) := by decide +kernel
theorem dX12_holdsOf_140 : decode cX12_holdsOf 140 = .ok (.bipush 8, 2) := by decide +kernel
theorem dX12_holdsOf_142 : decode cX12_holdsOf 142 = .ok (.iload 5, 2) := by decide +kernel
theorem dX12_holdsOf_144 : decode cX12_holdsOf 144 = .ok (.iastore, 1) := by decide +kernel
theorem dX12_holdsOf_145 : decode cX12_holdsOf 145 = .ok (.aload_n 0, 1) := by decide +kernel
theorem dX12_holdsOf_146 : decode cX12_holdsOf 146 = .ok (.aload_n 0, 1) := by decide +kernel
theorem dX12_holdsOf_147 : decode cX12_holdsOf 147 = .ok (.getfield 34, 3) := by decide +kernel
theorem dX12_holdsOf_150 : decode cX12_holdsOf 150 = .ok (.invokevirtual 387, 3) := by decide +kernel
theorem dX12_holdsOf_153 : decode cX12_holdsOf 153 = .ok (.bipush 100, 2) := by decide +kernel
theorem dX12_holdsOf_155 : decode cX12_holdsOf 155 = .ok (.invokestatic 384, 3) := by decide +kernel
theorem dX12_holdsOf_158 : decode cX12_holdsOf 158 = .ok (.ireturn, 1) := by decide +kernel
theorem dX12_isPatch_0 : decode cX12_isPatch 0 = .ok (.iload_n 0, 1) := by decide +kernel
theorem dX12_isPatch_1 : decode cX12_isPatch 1 = .ok (.iconst 0, 1) := by decide +kernel
theorem dX12_isPatch_2 : decode cX12_isPatch 2 = .ok (.bipush 60, 2) := by decide +kernel
theorem dX12_isPatch_4 : decode cX12_isPatch 4 = .ok (.invokestatic 348, 3) := by decide +kernel
theorem dX12_isPatch_7 : decode cX12_isPatch 7 = .ok (.ifCond .eq 27, 3) := by decide +kernel
theorem dX12_isPatch_10 : decode cX12_isPatch 10 = .ok (.iload_n 1, 1) := by decide +kernel
theorem dX12_isPatch_11 : decode cX12_isPatch 11 = .ok (.iconst 0, 1) := by decide +kernel
theorem dX12_isPatch_12 : decode cX12_isPatch 12 = .ok (.bipush 100, 2) := by decide +kernel
theorem dX12_isPatch_14 : decode cX12_isPatch 14 = .ok (.invokestatic 348, 3) := by decide +kernel
theorem dX12_isPatch_17 : decode cX12_isPatch 17 = .ok (.ifCond .eq 17, 3) := by decide +kernel
theorem dX12_isPatch_20 : decode cX12_isPatch 20 = .ok (.iload_n 2, 1) := by decide +kernel
theorem dX12_isPatch_21 : decode cX12_isPatch 21 = .ok (.iconst 0, 1) := by decide +kernel
theorem dX12_isPatch_22 : decode cX12_isPatch 22 = .ok (.bipush 100, 2) := by decide +kernel
theorem dX12_isPatch_24 : decode cX12_isPatch 24 = .ok (.invokestatic 348, 3) := by decide +kernel
theorem dX12_isPatch_27 : decode cX12_isPatch 27 = .ok (.ifCond .eq 7, 3) := by decide +kernel
theorem dX12_isPatch_30 : decode cX12_isPatch 30 = .ok (.iconst 1, 1) := by decide +kernel
theorem dX12_isPatch_31 : decode cX12_isPatch 31 = .ok (.goto 4, 3) := by decide +kernel
theorem dX12_isPatch_34 : decode cX12_isPatch 34 = .ok (.iconst 0, 1) := by decide +kernel
theorem dX12_isPatch_35 : decode cX12_isPatch 35 = .ok (.ireturn, 1) := by decide +kernel
theorem dX12_holds_0 : decode cX12_holds 0 = .ok (.aload_n 0, 1) := by decide +kernel
theorem dX12_holds_1 : decode cX12_holds 1 = .ok (.iconst 0, 1) := by decide +kernel
theorem dX12_holds_2 : decode cX12_holds 2 = .ok (.putfield 127, 3) := by decide +kernel
theorem dX12_holds_5 : decode cX12_holds 5 = .ok (.aload_n 0, 1) := by decide +kernel
theorem dX12_holds_6 : decode cX12_holds 6 = .ok (.iload_n 1, 1) := by decide +kernel
theorem dX12_holds_7 : decode cX12_holds 7 = .ok (.invokevirtual 361, 3) := by decide +kernel
theorem dX12_holds_10 : decode cX12_holds 10 = .ok (.ifCond .eq 30, 3) := by decide +kernel
theorem dX12_holds_13 : decode cX12_holds 13 = .ok (.aload_n 0, 1) := by decide +kernel
theorem dX12_holds_14 : decode cX12_holds 14 = .ok (.iload_n 2, 1) := by decide +kernel
theorem dX12_holds_15 : decode cX12_holds 15 = .ok (.iload_n 3, 1) := by decide +kernel
theorem dX12_holds_16 : decode cX12_holds 16 = .ok (.iload 4, 2) := by decide +kernel
theorem dX12_holds_18 : decode cX12_holds 18 = .ok (.invokestatic 481, 3) := by decide +kernel
theorem dX12_holds_21 : decode cX12_holds 21 = .ok (.iconst 2, 1) := by decide +kernel
theorem dX12_holds_22 : decode cX12_holds 22 = .ok (.invokevirtual 316, 3) := by decide +kernel
theorem dX12_holds_25 : decode cX12_holds 25 = .ok (.ifCond .eq 15, 3) := by decide +kernel
theorem dX12_holds_28 : decode cX12_holds 28 = .ok (.aload_n 0, 1) := by decide +kernel
theorem dX12_holds_29 : decode cX12_holds 29 = .ok (.iload_n 1, 1) := by decide +kernel
theorem dX12_holds_30 : decode cX12_holds 30 = .ok (.iload_n 2, 1) := by decide +kernel
theorem dX12_holds_31 : decode cX12_holds 31 = .ok (.iload_n 3, 1) := by decide +kernel
theorem dX12_holds_32 : decode cX12_holds 32 = .ok (.iload 4, 2) := by decide +kernel
theorem dX12_holds_34 : decode cX12_holds 34 = .ok (.invokevirtual 484, 3) := by decide +kernel
theorem dX12_holds_37 : decode cX12_holds 37 = .ok (.goto 4, 3) := by decide +kernel
theorem dX12_holds_40 : decode cX12_holds 40 = .ok (.iconst 0, 1) := by decide +kernel
theorem dX12_holds_41 : decode cX12_holds 41 = .ok (.ireturn, 1) := by decide +kernel
theorem dX12_glueOf_0 : decode cX12_glueOf 0 = .ok (.iconst 0, 1) := by decide +kernel
theorem dX12_glueOf_1 : decode cX12_glueOf 1 = .ok (.istore 5, 2) := by decide +kernel
theorem dX12_glueOf_3 : decode cX12_glueOf 3 = .ok (.iload 5, 2) := by decide +kernel
theorem dX12_glueOf_5 : decode cX12_glueOf 5 = .ok (.bipush 60, 2) := by decide +kernel
theorem dX12_glueOf_7 : decode cX12_glueOf 7 = .ok (.if_icmp .gt 26, 3) := by decide +kernel
theorem dX12_glueOf_10 : decode cX12_glueOf 10 = .ok (.aload_n 0, 1) := by decide +kernel
theorem dX12_glueOf_11 : decode cX12_glueOf 11 = .ok (.iload_n 1, 1) := by decide +kernel
theorem dX12_glueOf_12 : decode cX12_glueOf 12 = .ok (.iload 5, 2) := by decide +kernel
theorem dX12_glueOf_14 : decode cX12_glueOf 14 = .ok (.iload_n 2, 1) := by decide +kernel
theorem dX12_glueOf_15 : decode cX12_glueOf 15 = .ok (.iload_n 3, 1) := by decide +kernel
theorem dX12_glueOf_16 : decode cX12_glueOf 16 = .ok (.invokevirtual 484, 3) := by decide +kernel
theorem dX12_glueOf_19 : decode cX12_glueOf 19 = .ok (.iload 4, 2) := by decide +kernel
theorem dX12_glueOf_21 : decode cX12_glueOf 21 = .ok (.if_icmp .lt 6, 3) := by decide +kernel
theorem dX12_glueOf_24 : decode cX12_glueOf 24 = .ok (.iload 5, 2) := by decide +kernel
theorem dX12_glueOf_26 : decode cX12_glueOf 26 = .ok (.ireturn, 1) := by decide +kernel
theorem dX12_glueOf_27 : decode cX12_glueOf 27 = .ok (.iinc 5 1, 3) := by decide +kernel
theorem dX12_glueOf_30 : decode cX12_glueOf 30 = .ok (.goto (-27), 3) := by decide +kernel
theorem dX12_glueOf_33 : decode cX12_glueOf 33 = .ok (.iconst (-1), 1) := by decide +kernel
theorem dX12_glueOf_34 : decode cX12_glueOf 34 = .ok (.ireturn, 1) := by decide +kernel
theorem dX12_glue_0 : decode cX12_glue 0 = .ok (.aload_n 0, 1) := by decide +kernel
theorem dX12_glue_1 : decode cX12_glue 1 = .ok (.iconst 0, 1) := by decide +kernel
theorem dX12_glue_2 : decode cX12_glue 2 = .ok (.putfield 127, 3) := by decide +kernel
theorem dX12_glue_5 : decode cX12_glue 5 = .ok (.aload_n 0, 1) := by decide +kernel
theorem dX12_glue_6 : decode cX12_glue 6 = .ok (.iload_n 1, 1) := by decide +kernel
theorem dX12_glue_7 : decode cX12_glue 7 = .ok (.invokevirtual 361, 3) := by decide +kernel
theorem dX12_glue_10 : decode cX12_glue 10 = .ok (.ifCond .eq 48, 3) := by decide +kernel
theorem dX12_glue_13 : decode cX12_glue 13 = .ok (.aload_n 0, 1) := by decide +kernel
theorem dX12_glue_14 : decode cX12_glue 14 = .ok (.iconst 0, 1) := by decide +kernel
theorem dX12_glue_15 : decode cX12_glue 15 = .ok (.iload_n 2, 1) := by decide +kernel
theorem dX12_glue_16 : decode cX12_glue 16 = .ok (.iload_n 3, 1) := by decide +kernel
theorem dX12_glue_17 : decode cX12_glue 17 = .ok (.invokestatic 481, 3) := by decide +kernel
theorem dX12_glue_20 : decode cX12_glue 20 = .ok (.ifCond .eq 18, 3) := by decide +kernel
theorem dX12_glue_23 : decode cX12_glue 23 = .ok (.iload 4, 2) := by decide +kernel
theorem dX12_glue_25 : decode cX12_glue 25 = .ok (.iconst 0, 1) := by decide +kernel
theorem dX12_glue_26 : decode cX12_glue 26 = .ok (.bipush 100, 2) := by decide +kernel
theorem dX12_glue_28 : decode cX12_glue 28 = .ok (.invokestatic 348, 3) := by decide +kernel
theorem dX12_glue_31 : decode cX12_glue 31 = .ok (.ifCond .eq 7, 3) := by decide +kernel
theorem dX12_glue_34 : decode cX12_glue 34 = .ok (.iconst 1, 1) := by decide +kernel
theorem dX12_glue_35 : decode cX12_glue 35 = .ok (.goto 4, 3) := by decide +kernel
theorem dX12_glue_38 : decode cX12_glue 38 = .ok (.iconst 0, 1) := by decide +kernel
theorem dX12_glue_39 : decode cX12_glue 39 = .ok (.iconst 2, 1) := by decide +kernel
theorem dX12_glue_40 : decode cX12_glue 40 = .ok (.invokevirtual 316, 3) := by decide +kernel
theorem dX12_glue_43 : decode cX12_glue 43 = .ok (.ifCond .eq 15, 3) := by decide +kernel
theorem dX12_glue_46 : decode cX12_glue 46 = .ok (.aload_n 0, 1) := by decide +kernel
theorem dX12_glue_47 : decode cX12_glue 47 = .ok (.iload_n 1, 1) := by decide +kernel
theorem dX12_glue_48 : decode cX12_glue 48 = .ok (.iload_n 2, 1) := by decide +kernel
theorem dX12_glue_49 : decode cX12_glue 49 = .ok (.iload_n 3, 1) := by decide +kernel
theorem dX12_glue_50 : decode cX12_glue 50 = .ok (.iload 4, 2) := by decide +kernel
theorem dX12_glue_52 : decode cX12_glue 52 = .ok (.invokevirtual 488, 3) := by decide +kernel
theorem dX12_glue_55 : decode cX12_glue 55 = .ok (.goto 4, 3) := by decide +kernel
theorem dX12_glue_58 : decode cX12_glue 58 = .ok (.iconst 0, 1) := by decide +kernel
theorem dX12_glue_59 : decode cX12_glue 59 = .ok (.ireturn, 1) := by decide +kernel
theorem dX12_patch_0 : decode cX12_patch 0 = .ok (.aload_n 0, 1) := by decide +kernel
theorem dX12_patch_1 : decode cX12_patch 1 = .ok (.iconst 0, 1) := by decide +kernel
theorem dX12_patch_2 : decode cX12_patch 2 = .ok (.putfield 127, 3) := by decide +kernel
theorem dX12_patch_5 : decode cX12_patch 5 = .ok (.aload_n 0, 1) := by decide +kernel
theorem dX12_patch_6 : decode cX12_patch 6 = .ok (.iload_n 1, 1) := by decide +kernel
theorem dX12_patch_7 : decode cX12_patch 7 = .ok (.invokevirtual 361, 3) := by decide +kernel
theorem dX12_patch_10 : decode cX12_patch 10 = .ok (.ifCond .eq 18, 3) := by decide +kernel
theorem dX12_patch_13 : decode cX12_patch 13 = .ok (.aload_n 0, 1) := by decide +kernel
theorem dX12_patch_14 : decode cX12_patch 14 = .ok (.iload_n 2, 1) := by decide +kernel
theorem dX12_patch_15 : decode cX12_patch 15 = .ok (.iload_n 3, 1) := by decide +kernel
theorem dX12_patch_16 : decode cX12_patch 16 = .ok (.iload 4, 2) := by decide +kernel
theorem dX12_patch_18 : decode cX12_patch 18 = .ok (.invokestatic 481, 3) := by decide +kernel
theorem dX12_patch_21 : decode cX12_patch 21 = .ok (.iconst 2, 1) := by decide +kernel
theorem dX12_patch_22 : decode cX12_patch 22 = .ok (.invokevirtual 316, 3) := by decide +kernel
theorem dX12_patch_25 : decode cX12_patch 25 = .ok (.ifCond .ne 5, 3) := by decide +kernel
theorem dX12_patch_28 : decode cX12_patch 28 = .ok (.iconst 0, 1) := by decide +kernel
theorem dX12_patch_29 : decode cX12_patch 29 = .ok (.ireturn, 1) := by decide +kernel
theorem dX12_patch_30 : decode cX12_patch 30 = .ok (.aload_n 0, 1) := by decide +kernel
theorem dX12_patch_31 : decode cX12_patch 31 = .ok (.invokevirtual 408, 3) := by decide +kernel
theorem dX12_patch_34 : decode cX12_patch 34 = .ok (.aload_n 0, 1) := by decide +kernel
theorem dX12_patch_35 : decode cX12_patch 35 = .ok (.iload 5, 2) := by decide +kernel
theorem dX12_patch_37 : decode cX12_patch 37 = .ok (.putfield 455, 3) := by decide +kernel
theorem dX12_patch_40 : decode cX12_patch 40 = .ok (.aload_n 0, 1) := by decide +kernel
theorem dX12_patch_41 : decode cX12_patch 41 = .ok (.bipush 100, 2) := by decide +kernel
theorem dX12_patch_43 : decode cX12_patch 43 = .ok (.invokevirtual 462, 3) := by decide +kernel
theorem dX12_patch_46 : decode cX12_patch 46 = .ok (.aload_n 0, 1) := by decide +kernel
theorem dX12_patch_47 : decode cX12_patch 47 = .ok (.iload_n 1, 1) := by decide +kernel
theorem dX12_patch_48 : decode cX12_patch 48 = .ok (.iload_n 2, 1) := by decide +kernel
theorem dX12_patch_49 : decode cX12_patch 49 = .ok (.iload_n 3, 1) := by decide +kernel
theorem dX12_patch_50 : decode cX12_patch 50 = .ok (.iload 4, 2) := by decide +kernel
theorem dX12_patch_52 : decode cX12_patch 52 = .ok (.invokevirtual 484, 3) := by decide +kernel
theorem dX12_patch_55 : decode cX12_patch 55 = .ok (.if_icmp .ge 7, 3) := by decide +kernel
theorem dX12_patch_58 : decode cX12_patch 58 = .ok (.iconst 1, 1) := by decide +kernel
theorem dX12_patch_59 : decode cX12_patch 59 = .ok (.goto 4, 3) := by decide +kernel
theorem dX12_patch_62 : decode cX12_patch 62 = .ok (.iconst 0, 1) := by decide +kernel
theorem dX12_patch_63 : decode cX12_patch 63 = .ok (.istore 6, 2) := by decide +kernel
theorem dX12_patch_65 : decode cX12_patch 65 = .ok (.aload_n 0, 1) := by decide +kernel
theorem dX12_patch_66 : decode cX12_patch 66 = .ok (.iload 6, 2) := by decide +kernel
theorem dX12_patch_68 : decode cX12_patch 68 = .ok (.ifCond .eq 14, 3) := by decide +kernel
theorem dX12_patch_71 : decode cX12_patch 71 = .ok (.aload_n 0, 1) := by decide +kernel
theorem dX12_patch_72 : decode cX12_patch 72 = .ok (.getfield 368, 3) := by decide +kernel
theorem dX12_patch_75 : decode cX12_patch 75 = .ok (.iconst 1, 1) := by decide +kernel
theorem dX12_patch_76 : decode cX12_patch 76 = .ok (.iload_n 1, 1) := by decide +kernel
theorem dX12_patch_77 : decode cX12_patch 77 = .ok (.ishl, 1) := by decide +kernel
theorem dX12_patch_78 : decode cX12_patch 78 = .ok (.ior, 1) := by decide +kernel
theorem dX12_patch_79 : decode cX12_patch 79 = .ok (.goto 13, 3) := by decide +kernel
theorem dX12_patch_82 : decode cX12_patch 82 = .ok (.aload_n 0, 1) := by decide +kernel
theorem dX12_patch_83 : decode cX12_patch 83 = .ok (.getfield 368, 3) := by decide +kernel
theorem dX12_patch_86 : decode cX12_patch 86 = .ok (.iconst 1, 1) := by decide +kernel
theorem dX12_patch_87 : decode cX12_patch 87 = .ok (.iload_n 1, 1) := by decide +kernel
theorem dX12_patch_88 : decode cX12_patch 88 = .ok (.ishl, 1) := by decide +kernel
theorem dX12_patch_89 : decode cX12_patch 89 = .ok (.iconst (-1), 1) := by decide +kernel
theorem dX12_patch_90 : decode cX12_patch 90 = .ok (.ixor, 1) := by decide +kernel
theorem dX12_patch_91 : decode cX12_patch 91 = .ok (.iand, 1) := by decide +kernel
theorem dX12_patch_92 : decode cX12_patch 92 = .ok (.putfield 368, 3) := by decide +kernel
theorem dX12_patch_95 : decode cX12_patch 95 = .ok (.iload 6, 2) := by decide +kernel
theorem dX12_patch_97 : decode cX12_patch 97 = .ok (.ireturn, 1) := by decide +kernel
theorem dX12_feels_0 : decode cX12_feels 0 = .ok (.aload_n 0, 1) := by decide +kernel
theorem dX12_feels_1 : decode cX12_feels 1 = .ok (.getfield 326, 3) := by decide +kernel
theorem dX12_feels_4 : decode cX12_feels 4 = .ok (.iload_n 1, 1) := by decide +kernel
theorem dX12_feels_5 : decode cX12_feels 5 = .ok (.iadd, 1) := by decide +kernel
theorem dX12_feels_6 : decode cX12_feels 6 = .ok (.aload_n 0, 1) := by decide +kernel
theorem dX12_feels_7 : decode cX12_feels 7 = .ok (.getfield 7, 3) := by decide +kernel
theorem dX12_feels_10 : decode cX12_feels 10 = .ok (.irem, 1) := by decide +kernel
theorem dX12_feels_11 : decode cX12_feels 11 = .ok (.istore_n 2, 1) := by decide +kernel
theorem dX12_feels_12 : decode cX12_feels 12 = .ok (.aload_n 0, 1) := by decide +kernel
theorem dX12_feels_13 : decode cX12_feels 13 = .ok (.getfield 326, 3) := by decide +kernel
theorem dX12_feels_16 : decode cX12_feels 16 = .ok (.aload_n 0, 1) := by decide +kernel
theorem dX12_feels_17 : decode cX12_feels 17 = .ok (.getfield 7, 3) := by decide +kernel
theorem dX12_feels_20 : decode cX12_feels 20 = .ok (.iadd, 1) := by decide +kernel
theorem dX12_feels_21 : decode cX12_feels 21 = .ok (.iload_n 1, 1) := by decide +kernel
theorem dX12_feels_22 : decode cX12_feels 22 = .ok (.isub, 1) := by decide +kernel
theorem dX12_feels_23 : decode cX12_feels 23 = .ok (.aload_n 0, 1) := by decide +kernel
theorem dX12_feels_24 : decode cX12_feels 24 = .ok (.getfield 7, 3) := by decide +kernel
theorem dX12_feels_27 : decode cX12_feels 27 = .ok (.irem, 1) := by decide +kernel
theorem dX12_feels_28 : decode cX12_feels 28 = .ok (.istore_n 3, 1) := by decide +kernel
theorem dX12_feels_29 : decode cX12_feels 29 = .ok (.iload_n 2, 1) := by decide +kernel
theorem dX12_feels_30 : decode cX12_feels 30 = .ok (.iload_n 3, 1) := by decide +kernel
theorem dX12_feels_31 : decode cX12_feels 31 = .ok (.if_icmp .ge 12, 3) := by decide +kernel
theorem dX12_feels_34 : decode cX12_feels 34 = .ok (.bipush 100, 2) := by decide +kernel
theorem dX12_feels_36 : decode cX12_feels 36 = .ok (.iload_n 2, 1) := by decide +kernel
theorem dX12_feels_37 : decode cX12_feels 37 = .ok (.imul, 1) := by decide +kernel
theorem dX12_feels_38 : decode cX12_feels 38 = .ok (.iload_n 3, 1) := by decide +kernel
theorem dX12_feels_39 : decode cX12_feels 39 = .ok (.iadd, 1) := by decide +kernel
theorem dX12_feels_40 : decode cX12_feels 40 = .ok (.goto 9, 3) := by decide +kernel
theorem dX12_feels_43 : decode cX12_feels 43 = .ok (.bipush 100, 2) := by decide +kernel
theorem dX12_feels_45 : decode cX12_feels 45 = .ok (.iload_n 3, 1) := by decide +kernel
theorem dX12_feels_46 : decode cX12_feels 46 = .ok (.imul, 1) := by decide +kernel
theorem dX12_feels_47 : decode cX12_feels 47 = .ok (.iload_n 2, 1) := by decide +kernel
theorem dX12_feels_48 : decode cX12_feels 48 = .ok (.iadd, 1) := by decide +kernel
theorem dX12_feels_49 : decode cX12_feels 49 = .ok (.ireturn, 1) := by decide +kernel
theorem dX12_feel_0 : decode cX12_feel 0 = .ok (.aload_n 0, 1) := by decide +kernel
theorem dX12_feel_1 : decode cX12_feel 1 = .ok (.iconst 0, 1) := by decide +kernel
theorem dX12_feel_2 : decode cX12_feel 2 = .ok (.putfield 127, 3) := by decide +kernel
theorem dX12_feel_5 : decode cX12_feel 5 = .ok (.aload_n 0, 1) := by decide +kernel
theorem dX12_feel_6 : decode cX12_feel 6 = .ok (.aload_n 0, 1) := by decide +kernel
theorem dX12_feel_7 : decode cX12_feel 7 = .ok (.iload_n 1, 1) := by decide +kernel
theorem dX12_feel_8 : decode cX12_feel 8 = .ok (.invokevirtual 422, 3) := by decide +kernel
theorem dX12_feel_11 : decode cX12_feel 11 = .ok (.iconst 1, 1) := by decide +kernel
theorem dX12_feel_12 : decode cX12_feel 12 = .ok (.invokevirtual 316, 3) := by decide +kernel
theorem dX12_feel_15 : decode cX12_feel 15 = .ok (.ifCond .eq 11, 3) := by decide +kernel
theorem dX12_feel_18 : decode cX12_feel 18 = .ok (.aload_n 0, 1) := by decide +kernel
theorem dX12_feel_19 : decode cX12_feel 19 = .ok (.iload_n 1, 1) := by decide +kernel
theorem dX12_feel_20 : decode cX12_feel 20 = .ok (.invokevirtual 491, 3) := by decide +kernel
theorem dX12_feel_23 : decode cX12_feel 23 = .ok (.goto 4, 3) := by decide +kernel
theorem dX12_feel_26 : decode cX12_feel 26 = .ok (.iconst 0, 1) := by decide +kernel
theorem dX12_feel_27 : decode cX12_feel 27 = .ok (.ireturn, 1) := by decide +kernel
theorem dX12_fits_0 : decode cX12_fits 0 = .ok (.aload_n 0, 1) := by decide +kernel
theorem dX12_fits_1 : decode cX12_fits 1 = .ok (.iconst 0, 1) := by decide +kernel
theorem dX12_fits_2 : decode cX12_fits 2 = .ok (.putfield 127, 3) := by decide +kernel
theorem dX12_fits_5 : decode cX12_fits 5 = .ok (.aload_n 0, 1) := by decide +kernel
theorem dX12_fits_6 : decode cX12_fits 6 = .ok (.aload_n 0, 1) := by decide +kernel
theorem dX12_fits_7 : decode cX12_fits 7 = .ok (.iload_n 1, 1) := by decide +kernel
theorem dX12_fits_8 : decode cX12_fits 8 = .ok (.invokevirtual 422, 3) := by decide +kernel
theorem dX12_fits_11 : decode cX12_fits 11 = .ok (.iconst 1, 1) := by decide +kernel
theorem dX12_fits_12 : decode cX12_fits 12 = .ok (.invokevirtual 316, 3) := by decide +kernel
theorem dX12_fits_15 : decode cX12_fits 15 = .ok (.ifCond .ne 5, 3) := by decide +kernel
theorem dX12_fits_18 : decode cX12_fits 18 = .ok (.iconst 0, 1) := by decide +kernel
theorem dX12_fits_19 : decode cX12_fits 19 = .ok (.ireturn, 1) := by decide +kernel
theorem dX12_fits_20 : decode cX12_fits 20 = .ok (.iconst 0, 1) := by decide +kernel
theorem dX12_fits_21 : decode cX12_fits 21 = .ok (.istore_n 2, 1) := by decide +kernel
theorem dX12_fits_22 : decode cX12_fits 22 = .ok (.iconst 0, 1) := by decide +kernel
theorem dX12_fits_23 : decode cX12_fits 23 = .ok (.istore_n 3, 1) := by decide +kernel
theorem dX12_fits_24 : decode cX12_fits 24 = .ok (.iload_n 3, 1) := by decide +kernel
theorem dX12_fits_25 : decode cX12_fits 25 = .ok (.aload_n 0, 1) := by decide +kernel
theorem dX12_fits_26 : decode cX12_fits 26 = .ok (.getfield 329, 3) := by decide +kernel
theorem dX12_fits_29 : decode cX12_fits 29 = .ok (.if_icmp .ge 57, 3) := by decide +kernel
theorem dX12_fits_32 : decode cX12_fits 32 = .ok (.iload_n 2, 1) := by decide +kernel
theorem dX12_fits_33 : decode cX12_fits 33 = .ok (.aload_n 0, 1) := by decide +kernel
theorem dX12_fits_34 : decode cX12_fits 34 = .ok (.aload_n 0, 1) := by decide +kernel
theorem dX12_fits_35 : decode cX12_fits 35 = .ok (.getfield 37, 3) := by decide +kernel
theorem dX12_fits_38 : decode cX12_fits 38 = .ok (.iconst 4, 1) := by decide +kernel
theorem dX12_fits_39 : decode cX12_fits 39 = .ok (.iload_n 3, 1) := by decide +kernel
theorem dX12_fits_40 : decode cX12_fits 40 = .ok (.imul, 1) := by decide +kernel
theorem dX12_fits_41 : decode cX12_fits 41 = .ok (.iaload, 1) := by decide +kernel
theorem dX12_fits_42 : decode cX12_fits 42 = .ok (.invokevirtual 491, 3) := by decide +kernel
theorem dX12_fits_45 : decode cX12_fits 45 = .ok (.bipush 100, 2) := by decide +kernel
theorem dX12_fits_47 : decode cX12_fits 47 = .ok (.idiv, 1) := by decide +kernel
theorem dX12_fits_48 : decode cX12_fits 48 = .ok (.iload_n 1, 1) := by decide +kernel
theorem dX12_fits_49 : decode cX12_fits 49 = .ok (.if_icmp .eq 22, 3) := by decide +kernel
theorem dX12_fits_52 : decode cX12_fits 52 = .ok (.aload_n 0, 1) := by decide +kernel
theorem dX12_fits_53 : decode cX12_fits 53 = .ok (.aload_n 0, 1) := by decide +kernel
theorem dX12_fits_54 : decode cX12_fits 54 = .ok (.getfield 37, 3) := by decide +kernel
theorem dX12_fits_57 : decode cX12_fits 57 = .ok (.iconst 4, 1) := by decide +kernel
theorem dX12_fits_58 : decode cX12_fits 58 = .ok (.iload_n 3, 1) := by decide +kernel
theorem dX12_fits_59 : decode cX12_fits 59 = .ok (.imul, 1) := by decide +kernel
theorem dX12_fits_60 : decode cX12_fits 60 = .ok (.iaload, 1) := by decide +kernel
theorem dX12_fits_61 : decode cX12_fits 61 = .ok (.invokevirtual 491, 3) := by decide +kernel
theorem dX12_fits_64 : decode cX12_fits 64 = .ok (.bipush 100, 2) := by decide +kernel
theorem dX12_fits_66 : decode cX12_fits 66 = .ok (.irem, 1) := by decide +kernel
theorem dX12_fits_67 : decode cX12_fits 67 = .ok (.iload_n 1, 1) := by decide +kernel
theorem dX12_fits_68 : decode cX12_fits 68 = .ok (.if_icmp .ne 9, 3) := by decide +kernel
theorem dX12_fits_71 : decode cX12_fits 71 = .ok (.iconst 1, 1) := by decide +kernel
theorem dX12_fits_72 : decode cX12_fits 72 = .ok (.iload_n 3, 1) := by decide +kernel
theorem dX12_fits_73 : decode cX12_fits 73 = .ok (.ishl, 1) := by decide +kernel
theorem dX12_fits_74 : decode cX12_fits 74 = .ok (.goto 4, 3) := by decide +kernel
theorem dX12_fits_77 : decode cX12_fits 77 = .ok (.iconst 0, 1) := by decide +kernel
theorem dX12_fits_78 : decode cX12_fits 78 = .ok (.ior, 1) := by decide +kernel
theorem dX12_fits_79 : decode cX12_fits 79 = .ok (.istore_n 2, 1) := by decide +kernel
theorem dX12_fits_80 : decode cX12_fits 80 = .ok (.iinc 3 1, 3) := by decide +kernel
theorem dX12_fits_83 : decode cX12_fits 83 = .ok (.goto (-59), 3) := by decide +kernel
theorem dX12_fits_86 : decode cX12_fits 86 = .ok (.iload_n 2, 1) := by decide +kernel
theorem dX12_fits_87 : decode cX12_fits 87 = .ok (.ireturn, 1) := by decide +kernel
theorem dX12_causesOf_0 : decode cX12_causesOf 0 = .ok (.iconst 0, 1) := by decide +kernel
theorem dX12_causesOf_1 : decode cX12_causesOf 1 = .ok (.istore_n 2, 1) := by decide +kernel
theorem dX12_causesOf_2 : decode cX12_causesOf 2 = .ok (.iconst 0, 1) := by decide +kernel
theorem dX12_causesOf_3 : decode cX12_causesOf 3 = .ok (.istore_n 3, 1) := by decide +kernel
theorem dX12_causesOf_4 : decode cX12_causesOf 4 = .ok (.iload_n 3, 1) := by decide +kernel
theorem dX12_causesOf_5 : decode cX12_causesOf 5 = .ok (.aload_n 0, 1) := by decide +kernel
theorem dX12_causesOf_6 : decode cX12_causesOf 6 = .ok (.getfield 329, 3) := by decide +kernel
theorem dX12_causesOf_9 : decode cX12_causesOf 9 = .ok (.if_icmp .ge 76, 3) := by decide +kernel
theorem dX12_causesOf_12 : decode cX12_causesOf 12 = .ok (.iload_n 2, 1) := by decide +kernel
theorem dX12_causesOf_13 : decode cX12_causesOf 13 = .ok (.ifCond .ne 60, 3) := by decide +kernel
theorem dX12_causesOf_16 : decode cX12_causesOf 16 = .ok (.iload_n 3, 1) := by decide +kernel
theorem dX12_causesOf_17 : decode cX12_causesOf 17 = .ok (.iload_n 1, 1) := by decide +kernel
theorem dX12_causesOf_18 : decode cX12_causesOf 18 = .ok (.if_icmp .eq 59, 3) := by decide +kernel
theorem dX12_causesOf_21 : decode cX12_causesOf 21 = .ok (.aload_n 0, 1) := by decide +kernel
theorem dX12_causesOf_22 : decode cX12_causesOf 22 = .ok (.getfield 37, 3) := by decide +kernel
theorem dX12_causesOf_25 : decode cX12_causesOf 25 = .ok (.iconst 4, 1) := by decide +kernel
theorem dX12_causesOf_26 : decode cX12_causesOf 26 = .ok (.iload_n 3, 1) := by decide +kernel
theorem dX12_causesOf_27 : decode cX12_causesOf 27 = .ok (.imul, 1) := by decide +kernel
theorem dX12_causesOf_28 : decode cX12_causesOf 28 = .ok (.iconst 1, 1) := by decide +kernel
theorem dX12_causesOf_29 : decode cX12_causesOf 29 = .ok (.iadd, 1) := by decide +kernel
theorem dX12_causesOf_30 : decode cX12_causesOf 30 = .ok (.iaload, 1) := by decide +kernel
theorem dX12_causesOf_31 : decode cX12_causesOf 31 = .ok (.iconst 1, 1) := by decide +kernel
theorem dX12_causesOf_32 : decode cX12_causesOf 32 = .ok (.if_icmp .eq 17, 3) := by decide +kernel
theorem dX12_causesOf_35 : decode cX12_causesOf 35 = .ok (.aload_n 0, 1) := by decide +kernel
theorem dX12_causesOf_36 : decode cX12_causesOf 36 = .ok (.getfield 37, 3) := by decide +kernel
theorem dX12_causesOf_39 : decode cX12_causesOf 39 = .ok (.iconst 4, 1) := by decide +kernel
theorem dX12_causesOf_40 : decode cX12_causesOf 40 = .ok (.iload_n 3, 1) := by decide +kernel
theorem dX12_causesOf_41 : decode cX12_causesOf 41 = .ok (.imul, 1) := by decide +kernel
theorem dX12_causesOf_42 : decode cX12_causesOf 42 = .ok (.iconst 1, 1) := by decide +kernel
theorem dX12_causesOf_43 : decode cX12_causesOf 43 = .ok (.iadd, 1) := by decide +kernel
theorem dX12_causesOf_44 : decode cX12_causesOf 44 = .ok (.iaload, 1) := by decide +kernel
theorem dX12_causesOf_45 : decode cX12_causesOf 45 = .ok (.iconst 2, 1) := by decide +kernel
theorem dX12_causesOf_46 : decode cX12_causesOf 46 = .ok (.if_icmp .ne 31, 3) := by decide +kernel
theorem dX12_causesOf_49 : decode cX12_causesOf 49 = .ok (.aload_n 0, 1) := by decide +kernel
theorem dX12_causesOf_50 : decode cX12_causesOf 50 = .ok (.aload_n 0, 1) := by decide +kernel
theorem dX12_causesOf_51 : decode cX12_causesOf 51 = .ok (.getfield 37, 3) := by decide +kernel
theorem dX12_causesOf_54 : decode cX12_causesOf 54 = .ok (.iconst 4, 1) := by decide +kernel
theorem dX12_causesOf_55 : decode cX12_causesOf 55 = .ok (.iload_n 3, 1) := by decide +kernel
theorem dX12_causesOf_56 : decode cX12_causesOf 56 = .ok (.imul, 1) := by decide +kernel
theorem dX12_causesOf_57 : decode cX12_causesOf 57 = .ok (.iaload, 1) := by decide +kernel
theorem dX12_causesOf_58 : decode cX12_causesOf 58 = .ok (.aload_n 0, 1) := by decide +kernel
theorem dX12_causesOf_59 : decode cX12_causesOf 59 = .ok (.getfield 37, 3) := by decide +kernel
theorem dX12_causesOf_62 : decode cX12_causesOf 62 = .ok (.iconst 4, 1) := by decide +kernel
theorem dX12_causesOf_63 : decode cX12_causesOf 63 = .ok (.iload_n 1, 1) := by decide +kernel
theorem dX12_causesOf_64 : decode cX12_causesOf 64 = .ok (.imul, 1) := by decide +kernel
theorem dX12_causesOf_65 : decode cX12_causesOf 65 = .ok (.iaload, 1) := by decide +kernel
theorem dX12_causesOf_66 : decode cX12_causesOf 66 = .ok (.invokevirtual 478, 3) := by decide +kernel
theorem dX12_causesOf_69 : decode cX12_causesOf 69 = .ok (.iconst 1, 1) := by decide +kernel
theorem dX12_causesOf_70 : decode cX12_causesOf 70 = .ok (.if_icmp .gt 7, 3) := by decide +kernel
theorem dX12_causesOf_73 : decode cX12_causesOf 73 = .ok (.iconst 1, 1) := by decide +kernel
theorem dX12_causesOf_74 : decode cX12_causesOf 74 = .ok (.goto 4, 3) := by decide +kernel
theorem dX12_causesOf_77 : decode cX12_causesOf 77 = .ok (.iconst 0, 1) := by decide +kernel
theorem dX12_causesOf_78 : decode cX12_causesOf 78 = .ok (.istore_n 2, 1) := by decide +kernel
theorem dX12_causesOf_79 : decode cX12_causesOf 79 = .ok (.iinc 3 1, 3) := by decide +kernel
theorem dX12_causesOf_82 : decode cX12_causesOf 82 = .ok (.goto (-78), 3) := by decide +kernel
theorem dX12_causesOf_85 : decode cX12_causesOf 85 = .ok (.lconst 0, 1) := by decide +kernel
theorem dX12_causesOf_86 : decode cX12_causesOf 86 = .ok (.lstore_n 3, 1) := by decide +kernel
theorem dX12_causesOf_87 : decode cX12_causesOf 87 = .ok (.iconst 0, 1) := by decide +kernel
theorem dX12_causesOf_88 : decode cX12_causesOf 88 = .ok (.istore 5, 2) := by decide +kernel
theorem dX12_causesOf_90 : decode cX12_causesOf 90 = .ok (.iload 5, 2) := by decide +kernel
theorem dX12_causesOf_92 : decode cX12_causesOf 92 = .ok (.iconst 4, 1) := by decide +kernel
theorem dX12_causesOf_93 : decode cX12_causesOf 93 = .ok (.if_icmp .ge 97, 3) := by decide +kernel
theorem dX12_causesOf_96 : decode cX12_causesOf 96 = .ok (.aload_n 0, 1) := by decide +kernel
theorem dX12_causesOf_97 : decode cX12_causesOf 97 = .ok (.getfield 109, 3) := by decide +kernel
theorem dX12_causesOf_100 : decode cX12_causesOf 100 = .ok (.iload 5, 2) := by decide +kernel
theorem dX12_causesOf_102 : decode cX12_causesOf 102 = .ok (.iload 5, 2) := by decide +kernel
theorem dX12_causesOf_104 : decode cX12_causesOf 104 = .ok (.iconst 4, 1) := by decide +kernel
theorem dX12_causesOf_105 : decode cX12_causesOf 105 = .ok (.aload_n 0, 1) := by decide +kernel
theorem dX12_causesOf_106 : decode cX12_causesOf 106 = .ok (.getfield 37, 3) := by decide +kernel
theorem dX12_causesOf_109 : decode cX12_causesOf 109 = .ok (.iconst 4, 1) := by decide +kernel
theorem dX12_causesOf_110 : decode cX12_causesOf 110 = .ok (.iload_n 1, 1) := by decide +kernel
theorem dX12_causesOf_111 : decode cX12_causesOf 111 = .ok (.imul, 1) := by decide +kernel
theorem dX12_causesOf_112 : decode cX12_causesOf 112 = .ok (.iaload, 1) := by decide +kernel
theorem dX12_causesOf_113 : decode cX12_causesOf 113 = .ok (.imul, 1) := by decide +kernel
theorem dX12_causesOf_114 : decode cX12_causesOf 114 = .ok (.aload_n 0, 1) := by decide +kernel
theorem dX12_causesOf_115 : decode cX12_causesOf 115 = .ok (.getfield 37, 3) := by decide +kernel
theorem dX12_causesOf_118 : decode cX12_causesOf 118 = .ok (.iconst 4, 1) := by decide +kernel
theorem dX12_causesOf_119 : decode cX12_causesOf 119 = .ok (.iload_n 1, 1) := by decide +kernel
theorem dX12_causesOf_120 : decode cX12_causesOf 120 = .ok (.imul, 1) := by decide +kernel
theorem dX12_causesOf_121 : decode cX12_causesOf 121 = .ok (.iconst 1, 1) := by decide +kernel
theorem dX12_causesOf_122 : decode cX12_causesOf 122 = .ok (.iadd, 1) := by decide +kernel
theorem dX12_causesOf_123 : decode cX12_causesOf 123 = .ok (.iaload, 1) := by decide +kernel
theorem dX12_causesOf_124 : decode cX12_causesOf 124 = .ok (.iadd, 1) := by decide +kernel
theorem dX12_causesOf_125 : decode cX12_causesOf 125 = .ok (.invokestatic 371, 3) := by decide +kernel
theorem dX12_causesOf_128 : decode cX12_causesOf 128 = .ok (.ifCond .eq 44, 3) := by decide +kernel
theorem dX12_causesOf_131 : decode cX12_causesOf 131 = .ok (.aload_n 0, 1) := by decide +kernel
theorem dX12_causesOf_132 : decode cX12_causesOf 132 = .ok (.getfield 41, 3) := by decide +kernel
theorem dX12_causesOf_135 : decode cX12_causesOf 135 = .ok (.iload 5, 2) := by decide +kernel
theorem dX12_causesOf_137 : decode cX12_causesOf 137 = .ok (.iaload, 1) := by decide +kernel
theorem dX12_causesOf_138 : decode cX12_causesOf 138 = .ok (.i2l, 1) := by decide +kernel
theorem dX12_causesOf_139 : decode cX12_causesOf 139 = .ok (.ldc2_w 494, 3) := by decide +kernel
theorem dX12_causesOf_142 : decode cX12_causesOf 142 = .ok (.lmul, 1) := by decide +kernel
theorem dX12_causesOf_143 : decode cX12_causesOf 143 = .ok (.aload_n 0, 1) := by decide +kernel
theorem dX12_causesOf_144 : decode cX12_causesOf 144 = .ok (.iload 5, 2) := by decide +kernel
theorem dX12_causesOf_146 : decode cX12_causesOf 146 = .ok (.invokevirtual 376, 3) := by decide +kernel
theorem dX12_causesOf_149 : decode cX12_causesOf 149 = .ok (.i2l, 1) := by decide +kernel
theorem dX12_causesOf_150 : decode cX12_causesOf 150 = .ok (.ldiv, 1) := by decide +kernel
theorem dX12_causesOf_151 : decode cX12_causesOf 151 = .ok (.iload 5, 2) := by decide +kernel
theorem dX12_causesOf_153 : decode cX12_causesOf 153 = .ok (.iconst 1, 1) := by decide +kernel
theorem dX12_causesOf_154 : decode cX12_causesOf 154 = .ok (.if_icmp .ne 13, 3) := by decide +kernel
theorem dX12_causesOf_157 : decode cX12_causesOf 157 = .ok (.iload_n 2, 1) := by decide +kernel
theorem dX12_causesOf_158 : decode cX12_causesOf 158 = .ok (.ifCond .eq 9, 3) := by decide +kernel
theorem dX12_causesOf_161 : decode cX12_causesOf 161 = .ok (.ldc2_w 436, 3) := by decide +kernel
theorem dX12_causesOf_164 : decode cX12_causesOf 164 = .ok (.goto 4, 3) := by decide +kernel
theorem dX12_causesOf_167 : decode cX12_causesOf 167 = .ok (.lconst 1, 1) := by decide +kernel
theorem dX12_causesOf_168 : decode cX12_causesOf 168 = .ok (.lmul, 1) := by decide +kernel
theorem dX12_causesOf_169 : decode cX12_causesOf 169 = .ok (.goto 4, 3) := by decide +kernel
theorem dX12_causesOf_172 : decode cX12_causesOf 172 = .ok (.lconst 0, 1) := by decide +kernel
theorem dX12_causesOf_173 : decode cX12_causesOf 173 = .ok (.lastore, 1) := by decide +kernel
theorem dX12_causesOf_174 : decode cX12_causesOf 174 = .ok (.lload_n 3, 1) := by decide +kernel
theorem dX12_causesOf_175 : decode cX12_causesOf 175 = .ok (.aload_n 0, 1) := by decide +kernel
theorem dX12_causesOf_176 : decode cX12_causesOf 176 = .ok (.getfield 109, 3) := by decide +kernel
theorem dX12_causesOf_179 : decode cX12_causesOf 179 = .ok (.iload 5, 2) := by decide +kernel
theorem dX12_causesOf_181 : decode cX12_causesOf 181 = .ok (.laload, 1) := by decide +kernel
theorem dX12_causesOf_182 : decode cX12_causesOf 182 = .ok (.ladd, 1) := by decide +kernel
theorem dX12_causesOf_183 : decode cX12_causesOf 183 = .ok (.lstore_n 3, 1) := by decide +kernel
theorem dX12_causesOf_184 : decode cX12_causesOf 184 = .ok (.iinc 5 1, 3) := by decide +kernel
theorem dX12_causesOf_187 : decode cX12_causesOf 187 = .ok (.goto (-97), 3) := by decide +kernel
theorem dX12_causesOf_190 : decode cX12_causesOf 190 = .ok (.lload_n 3, 1) := by decide +kernel
theorem dX12_causesOf_191 : decode cX12_causesOf 191 = .ok (.lreturn, 1) := by decide +kernel
theorem dX12_cause_0 : decode cX12_cause 0 = .ok (.aload_n 0, 1) := by decide +kernel
theorem dX12_cause_1 : decode cX12_cause 1 = .ok (.iconst 0, 1) := by decide +kernel
theorem dX12_cause_2 : decode cX12_cause 2 = .ok (.putfield 127, 3) := by decide +kernel
theorem dX12_cause_5 : decode cX12_cause 5 = .ok (.aload_n 0, 1) := by decide +kernel
theorem dX12_cause_6 : decode cX12_cause 6 = .ok (.iload_n 1, 1) := by decide +kernel
theorem dX12_cause_7 : decode cX12_cause 7 = .ok (.invokevirtual 361, 3) := by decide +kernel
theorem dX12_cause_10 : decode cX12_cause 10 = .ok (.ifCond .eq 26, 3) := by decide +kernel
theorem dX12_cause_13 : decode cX12_cause 13 = .ok (.aload_n 0, 1) := by decide +kernel
theorem dX12_cause_14 : decode cX12_cause 14 = .ok (.iload_n 2, 1) := by decide +kernel
theorem dX12_cause_15 : decode cX12_cause 15 = .ok (.iconst (-1), 1) := by decide +kernel
theorem dX12_cause_16 : decode cX12_cause 16 = .ok (.if_icmp .lt 12, 3) := by decide +kernel
theorem dX12_cause_19 : decode cX12_cause 19 = .ok (.iload_n 2, 1) := by decide +kernel
theorem dX12_cause_20 : decode cX12_cause 20 = .ok (.iconst 4, 1) := by decide +kernel
theorem dX12_cause_21 : decode cX12_cause 21 = .ok (.if_icmp .ge 7, 3) := by decide +kernel
theorem dX12_cause_24 : decode cX12_cause 24 = .ok (.iconst 1, 1) := by decide +kernel
theorem dX12_cause_25 : decode cX12_cause 25 = .ok (.goto 4, 3) := by decide +kernel
theorem dX12_cause_28 : decode cX12_cause 28 = .ok (.iconst 0, 1) := by decide +kernel
theorem dX12_cause_29 : decode cX12_cause 29 = .ok (.iconst 1, 1) := by decide +kernel
theorem dX12_cause_30 : decode cX12_cause 30 = .ok (.invokevirtual 316, 3) := by decide +kernel
theorem dX12_cause_33 : decode cX12_cause 33 = .ok (.ifCond .ne 5, 3) := by decide +kernel
theorem dX12_cause_36 : decode cX12_cause 36 = .ok (.iconst 0, 1) := by decide +kernel
theorem dX12_cause_37 : decode cX12_cause 37 = .ok (.ireturn, 1) := by decide +kernel
theorem dX12_cause_38 : decode cX12_cause 38 = .ok (.aload_n 0, 1) := by decide +kernel
theorem dX12_cause_39 : decode cX12_cause 39 = .ok (.iload_n 1, 1) := by decide +kernel
theorem dX12_cause_40 : decode cX12_cause 40 = .ok (.invokevirtual 496, 3) := by decide +kernel
theorem dX12_cause_43 : decode cX12_cause 43 = .ok (.lstore_n 3, 1) := by decide +kernel
theorem dX12_cause_44 : decode cX12_cause 44 = .ok (.iload_n 2, 1) := by decide +kernel
theorem dX12_cause_45 : decode cX12_cause 45 = .ok (.iconst (-1), 1) := by decide +kernel
theorem dX12_cause_46 : decode cX12_cause 46 = .ok (.if_icmp .eq 14, 3) := by decide +kernel
theorem dX12_cause_49 : decode cX12_cause 49 = .ok (.aload_n 0, 1) := by decide +kernel
theorem dX12_cause_50 : decode cX12_cause 50 = .ok (.getfield 109, 3) := by decide +kernel
theorem dX12_cause_53 : decode cX12_cause 53 = .ok (.iload_n 2, 1) := by decide +kernel
theorem dX12_cause_54 : decode cX12_cause 54 = .ok (.laload, 1) := by decide +kernel
theorem dX12_cause_55 : decode cX12_cause 55 = .ok (.lload_n 3, 1) := by decide +kernel
theorem dX12_cause_56 : decode cX12_cause 56 = .ok (.invokestatic 442, 3) := by decide +kernel
theorem dX12_cause_59 : decode cX12_cause 59 = .ok (.ireturn, 1) := by decide +kernel
theorem dX12_cause_60 : decode cX12_cause 60 = .ok (.iconst (-1), 1) := by decide +kernel
theorem dX12_cause_61 : decode cX12_cause 61 = .ok (.istore 5, 2) := by decide +kernel
theorem dX12_cause_63 : decode cX12_cause 63 = .ok (.iconst 0, 1) := by decide +kernel
theorem dX12_cause_64 : decode cX12_cause 64 = .ok (.istore 6, 2) := by decide +kernel
theorem dX12_cause_66 : decode cX12_cause 66 = .ok (.iload 6, 2) := by decide +kernel
theorem dX12_cause_68 : decode cX12_cause 68 = .ok (.iconst 4, 1) := by decide +kernel
theorem dX12_cause_69 : decode cX12_cause 69 = .ok (.if_icmp .ge 41, 3) := by decide +kernel
theorem dX12_cause_72 : decode cX12_cause 72 = .ok (.aload_n 0, 1) := by decide +kernel
theorem dX12_cause_73 : decode cX12_cause 73 = .ok (.getfield 109, 3) := by decide +kernel
theorem dX12_cause_76 : decode cX12_cause 76 = .ok (.iload 6, 2) := by decide +kernel
theorem dX12_cause_78 : decode cX12_cause 78 = .ok (.laload, 1) := by decide +kernel
theorem dX12_cause_79 : decode cX12_cause 79 = .ok (.iload 5, 2) := by decide +kernel
theorem dX12_cause_81 : decode cX12_cause 81 = .ok (.iconst (-1), 1) := by decide +kernel
theorem dX12_cause_82 : decode cX12_cause 82 = .ok (.if_icmp .ne 7, 3) := by decide +kernel
theorem dX12_cause_85 : decode cX12_cause 85 = .ok (.lconst 0, 1) := by decide +kernel
theorem dX12_cause_86 : decode cX12_cause 86 = .ok (.goto 10, 3) := by decide +kernel
theorem dX12_cause_89 : decode cX12_cause 89 = .ok (.aload_n 0, 1) := by decide +kernel
theorem dX12_cause_90 : decode cX12_cause 90 = .ok (.getfield 109, 3) := by decide +kernel
theorem dX12_cause_93 : decode cX12_cause 93 = .ok (.iload 5, 2) := by decide +kernel
theorem dX12_cause_95 : decode cX12_cause 95 = .ok (.laload, 1) := by decide +kernel
theorem dX12_cause_96 : decode cX12_cause 96 = .ok (.lcmp, 1) := by decide +kernel
theorem dX12_cause_97 : decode cX12_cause 97 = .ok (.ifCond .le 7, 3) := by decide +kernel
theorem dX12_cause_100 : decode cX12_cause 100 = .ok (.iload 6, 2) := by decide +kernel
theorem dX12_cause_102 : decode cX12_cause 102 = .ok (.istore 5, 2) := by decide +kernel
theorem dX12_cause_104 : decode cX12_cause 104 = .ok (.iinc 6 1, 3) := by decide +kernel
theorem dX12_cause_107 : decode cX12_cause 107 = .ok (.goto (-41), 3) := by decide +kernel
theorem dX12_cause_110 : decode cX12_cause 110 = .ok (.iload 5, 2) := by decide +kernel
theorem dX12_cause_112 : decode cX12_cause 112 = .ok (.ireturn, 1) := by decide +kernel
theorem dX12_ridesFor_0 : decode cX12_ridesFor 0 = .ok (.aload_n 0, 1) := by decide +kernel
theorem dX12_ridesFor_1 : decode cX12_ridesFor 1 = .ok (.getfield 352, 3) := by decide +kernel
theorem dX12_ridesFor_4 : decode cX12_ridesFor 4 = .ok (.istore_n 2, 1) := by decide +kernel
theorem dX12_ridesFor_5 : decode cX12_ridesFor 5 = .ok (.aload_n 0, 1) := by decide +kernel
theorem dX12_ridesFor_6 : decode cX12_ridesFor 6 = .ok (.iconst 0, 1) := by decide +kernel
theorem dX12_ridesFor_7 : decode cX12_ridesFor 7 = .ok (.putfield 499, 3) := by decide +kernel
theorem dX12_ridesFor_10 : decode cX12_ridesFor 10 = .ok (.iconst 0, 1) := by decide +kernel
theorem dX12_ridesFor_11 : decode cX12_ridesFor 11 = .ok (.istore_n 3, 1) := by decide +kernel
theorem dX12_ridesFor_12 : decode cX12_ridesFor 12 = .ok (.iload_n 3, 1) := by decide +kernel
theorem dX12_ridesFor_13 : decode cX12_ridesFor 13 = .ok (.bipush 6, 2) := by decide +kernel
theorem dX12_ridesFor_15 : decode cX12_ridesFor 15 = .ok (.iload_n 1, 1) := by decide +kernel
theorem dX12_ridesFor_16 : decode cX12_ridesFor 16 = .ok (.imul, 1) := by decide +kernel
theorem dX12_ridesFor_17 : decode cX12_ridesFor 17 = .ok (.if_icmp .ge 83, 3) := by decide +kernel
theorem dX12_ridesFor_20 : decode cX12_ridesFor 20 = .ok (.aload_n 0, 1) := by decide +kernel
theorem dX12_ridesFor_21 : decode cX12_ridesFor 21 = .ok (.iconst 1, 1) := by decide +kernel
theorem dX12_ridesFor_22 : decode cX12_ridesFor 22 = .ok (.invokevirtual 398, 3) := by decide +kernel
theorem dX12_ridesFor_25 : decode cX12_ridesFor 25 = .ok (.istore 4, 2) := by decide +kernel
theorem dX12_ridesFor_27 : decode cX12_ridesFor 27 = .ok (.iload_n 2, 1) := by decide +kernel
theorem dX12_ridesFor_28 : decode cX12_ridesFor 28 = .ok (.aload_n 0, 1) := by decide +kernel
theorem dX12_ridesFor_29 : decode cX12_ridesFor 29 = .ok (.iload 4, 2) := by decide +kernel
theorem dX12_ridesFor_31 : decode cX12_ridesFor 31 = .ok (.iload_n 2, 1) := by decide +kernel
theorem dX12_ridesFor_32 : decode cX12_ridesFor 32 = .ok (.aload_n 0, 1) := by decide +kernel
theorem dX12_ridesFor_33 : decode cX12_ridesFor 33 = .ok (.getfield 355, 3) := by decide +kernel
theorem dX12_ridesFor_36 : decode cX12_ridesFor 36 = .ok (.iload_n 3, 1) := by decide +kernel
theorem dX12_ridesFor_37 : decode cX12_ridesFor 37 = .ok (.iadd, 1) := by decide +kernel
theorem dX12_ridesFor_38 : decode cX12_ridesFor 38 = .ok (.iconst 1, 1) := by decide +kernel
theorem dX12_ridesFor_39 : decode cX12_ridesFor 39 = .ok (.invokevirtual 402, 3) := by decide +kernel
theorem dX12_ridesFor_42 : decode cX12_ridesFor 42 = .ok (.isub, 1) := by decide +kernel
theorem dX12_ridesFor_43 : decode cX12_ridesFor 43 = .ok (.sipush 10000, 3) := by decide +kernel
theorem dX12_ridesFor_46 : decode cX12_ridesFor 46 = .ok (.if_icmp .ge 22, 3) := by decide +kernel
theorem dX12_ridesFor_49 : decode cX12_ridesFor 49 = .ok (.sipush 1000, 3) := by decide +kernel
theorem dX12_ridesFor_52 : decode cX12_ridesFor 52 = .ok (.aload_n 0, 1) := by decide +kernel
theorem dX12_ridesFor_53 : decode cX12_ridesFor 53 = .ok (.getfield 22, 3) := by decide +kernel
theorem dX12_ridesFor_56 : decode cX12_ridesFor 56 = .ok (.imul, 1) := by decide +kernel
theorem dX12_ridesFor_57 : decode cX12_ridesFor 57 = .ok (.istore_n 2, 1) := by decide +kernel
theorem dX12_ridesFor_58 : decode cX12_ridesFor 58 = .ok (.aload_n 0, 1) := by decide +kernel
theorem dX12_ridesFor_59 : decode cX12_ridesFor 59 = .ok (.dup, 1) := by decide +kernel
theorem dX12_ridesFor_60 : decode cX12_ridesFor 60 = .ok (.getfield 499, 3) := by decide +kernel
theorem dX12_ridesFor_63 : decode cX12_ridesFor 63 = .ok (.iconst 1, 1) := by decide +kernel
theorem dX12_ridesFor_64 : decode cX12_ridesFor 64 = .ok (.iadd, 1) := by decide +kernel
theorem dX12_ridesFor_65 : decode cX12_ridesFor 65 = .ok (.putfield 499, 3) := by decide +kernel
theorem dX12_ridesFor_68 : decode cX12_ridesFor 68 = .ok (.iload_n 2, 1) := by decide +kernel
theorem dX12_ridesFor_69 : decode cX12_ridesFor 69 = .ok (.aload_n 0, 1) := by decide +kernel
theorem dX12_ridesFor_70 : decode cX12_ridesFor 70 = .ok (.iload 4, 2) := by decide +kernel
theorem dX12_ridesFor_72 : decode cX12_ridesFor 72 = .ok (.iload_n 2, 1) := by decide +kernel
theorem dX12_ridesFor_73 : decode cX12_ridesFor 73 = .ok (.aload_n 0, 1) := by decide +kernel
theorem dX12_ridesFor_74 : decode cX12_ridesFor 74 = .ok (.getfield 355, 3) := by decide +kernel
theorem dX12_ridesFor_77 : decode cX12_ridesFor 77 = .ok (.iload_n 3, 1) := by decide +kernel
theorem dX12_ridesFor_78 : decode cX12_ridesFor 78 = .ok (.iadd, 1) := by decide +kernel
theorem dX12_ridesFor_79 : decode cX12_ridesFor 79 = .ok (.iconst 1, 1) := by decide +kernel
theorem dX12_ridesFor_80 : decode cX12_ridesFor 80 = .ok (.invokevirtual 402, 3) := by decide +kernel
theorem dX12_ridesFor_83 : decode cX12_ridesFor 83 = .ok (.isub, 1) := by decide +kernel
theorem dX12_ridesFor_84 : decode cX12_ridesFor 84 = .ok (.istore_n 2, 1) := by decide +kernel
theorem dX12_ridesFor_85 : decode cX12_ridesFor 85 = .ok (.iload_n 2, 1) := by decide +kernel
theorem dX12_ridesFor_86 : decode cX12_ridesFor 86 = .ok (.sipush 10000, 3) := by decide +kernel
theorem dX12_ridesFor_89 : decode cX12_ridesFor 89 = .ok (.if_icmp .ge 5, 3) := by decide +kernel
theorem dX12_ridesFor_92 : decode cX12_ridesFor 92 = .ok (.iconst (-1), 1) := by decide +kernel
theorem dX12_ridesFor_93 : decode cX12_ridesFor 93 = .ok (.ireturn, 1) := by decide +kernel
theorem dX12_ridesFor_94 : decode cX12_ridesFor 94 = .ok (.iinc 3 1, 3) := by decide +kernel
theorem dX12_ridesFor_97 : decode cX12_ridesFor 97 = .ok (.goto (-85), 3) := by decide +kernel
theorem dX12_ridesFor_100 : decode cX12_ridesFor 100 = .ok (.bipush 6, 2) := by decide +kernel
theorem dX12_ridesFor_102 : decode cX12_ridesFor 102 = .ok (.iload_n 1, 1) := by decide +kernel
theorem dX12_ridesFor_103 : decode cX12_ridesFor 103 = .ok (.imul, 1) := by decide +kernel
theorem dX12_ridesFor_104 : decode cX12_ridesFor 104 = .ok (.iconst 3, 1) := by decide +kernel
theorem dX12_ridesFor_105 : decode cX12_ridesFor 105 = .ok (.aload_n 0, 1) := by decide +kernel
theorem dX12_ridesFor_106 : decode cX12_ridesFor 106 = .ok (.getfield 499, 3) := by decide +kernel
theorem dX12_ridesFor_109 : decode cX12_ridesFor 109 = .ok (.imul, 1) := by decide +kernel
theorem dX12_ridesFor_110 : decode cX12_ridesFor 110 = .ok (.iadd, 1) := by decide +kernel
theorem dX12_ridesFor_111 : decode cX12_ridesFor 111 = .ok (.ireturn, 1) := by decide +kernel
theorem dX12_ride_0 : decode cX12_ride 0 = .ok (.aload_n 0, 1) := by decide +kernel
theorem dX12_ride_1 : decode cX12_ride 1 = .ok (.iconst 0, 1) := by decide +kernel
theorem dX12_ride_2 : decode cX12_ride 2 = .ok (.putfield 127, 3) := by decide +kernel
theorem dX12_ride_5 : decode cX12_ride 5 = .ok (.aload_n 0, 1) := by decide +kernel
theorem dX12_ride_6 : decode cX12_ride 6 = .ok (.iload_n 2, 1) := by decide +kernel
theorem dX12_ride_7 : decode cX12_ride 7 = .ok (.iconst 1, 1) := by decide +kernel
theorem dX12_ride_8 : decode cX12_ride 8 = .ok (.invokevirtual 364, 3) := by decide +kernel
theorem dX12_ride_11 : decode cX12_ride 11 = .ok (.ifCond .eq 18, 3) := by decide +kernel
theorem dX12_ride_14 : decode cX12_ride 14 = .ok (.aload_n 0, 1) := by decide +kernel
theorem dX12_ride_15 : decode cX12_ride 15 = .ok (.iload_n 1, 1) := by decide +kernel
theorem dX12_ride_16 : decode cX12_ride 16 = .ok (.iconst 0, 1) := by decide +kernel
theorem dX12_ride_17 : decode cX12_ride 17 = .ok (.bipush 60, 2) := by decide +kernel
theorem dX12_ride_19 : decode cX12_ride 19 = .ok (.invokestatic 348, 3) := by decide +kernel
theorem dX12_ride_22 : decode cX12_ride 22 = .ok (.iconst 2, 1) := by decide +kernel
theorem dX12_ride_23 : decode cX12_ride 23 = .ok (.invokevirtual 316, 3) := by decide +kernel
theorem dX12_ride_26 : decode cX12_ride 26 = .ok (.ifCond .ne 5, 3) := by decide +kernel
theorem dX12_ride_29 : decode cX12_ride 29 = .ok (.iconst 0, 1) := by decide +kernel
theorem dX12_ride_30 : decode cX12_ride 30 = .ok (.ireturn, 1) := by decide +kernel
theorem dX12_ride_31 : decode cX12_ride 31 = .ok (.aload_n 0, 1) := by decide +kernel
theorem dX12_ride_32 : decode cX12_ride 32 = .ok (.iload_n 1, 1) := by decide +kernel
theorem dX12_ride_33 : decode cX12_ride 33 = .ok (.invokevirtual 502, 3) := by decide +kernel
theorem dX12_ride_36 : decode cX12_ride 36 = .ok (.istore_n 3, 1) := by decide +kernel
theorem dX12_ride_37 : decode cX12_ride 37 = .ok (.iload_n 3, 1) := by decide +kernel
theorem dX12_ride_38 : decode cX12_ride 38 = .ok (.iconst (-1), 1) := by decide +kernel
theorem dX12_ride_39 : decode cX12_ride 39 = .ok (.if_icmp .eq 8, 3) := by decide +kernel
theorem dX12_ride_42 : decode cX12_ride 42 = .ok (.iload_n 2, 1) := by decide +kernel
theorem dX12_ride_43 : decode cX12_ride 43 = .ok (.iconst 1, 1) := by decide +kernel
theorem dX12_ride_44 : decode cX12_ride 44 = .ok (.if_icmp .ne 7, 3) := by decide +kernel
theorem dX12_ride_47 : decode cX12_ride 47 = .ok (.iload_n 3, 1) := by decide +kernel
theorem dX12_ride_48 : decode cX12_ride 48 = .ok (.goto 7, 3) := by decide +kernel
theorem dX12_ride_51 : decode cX12_ride 51 = .ok (.aload_n 0, 1) := by decide +kernel
theorem dX12_ride_52 : decode cX12_ride 52 = .ok (.getfield 499, 3) := by decide +kernel
theorem dX12_ride_55 : decode cX12_ride 55 = .ok (.ireturn, 1) := by decide +kernel
theorem dX12_best_0 : decode cX12_best 0 = .ok (.aload_n 0, 1) := by decide +kernel
theorem dX12_best_1 : decode cX12_best 1 = .ok (.iconst 0, 1) := by decide +kernel
theorem dX12_best_2 : decode cX12_best 2 = .ok (.putfield 127, 3) := by decide +kernel
theorem dX12_best_5 : decode cX12_best 5 = .ok (.aload_n 0, 1) := by decide +kernel
theorem dX12_best_6 : decode cX12_best 6 = .ok (.iload 5, 2) := by decide +kernel
theorem dX12_best_8 : decode cX12_best 8 = .ok (.iconst 1, 1) := by decide +kernel
theorem dX12_best_9 : decode cX12_best 9 = .ok (.invokevirtual 364, 3) := by decide +kernel
theorem dX12_best_12 : decode cX12_best 12 = .ok (.ifCond .eq 46, 3) := by decide +kernel
theorem dX12_best_15 : decode cX12_best 15 = .ok (.aload_n 0, 1) := by decide +kernel
theorem dX12_best_16 : decode cX12_best 16 = .ok (.iload_n 1, 1) := by decide +kernel
theorem dX12_best_17 : decode cX12_best 17 = .ok (.iconst 0, 1) := by decide +kernel
theorem dX12_best_18 : decode cX12_best 18 = .ok (.bipush 60, 2) := by decide +kernel
theorem dX12_best_20 : decode cX12_best 20 = .ok (.invokestatic 348, 3) := by decide +kernel
theorem dX12_best_23 : decode cX12_best 23 = .ok (.ifCond .eq 27, 3) := by decide +kernel
theorem dX12_best_26 : decode cX12_best 26 = .ok (.iconst 0, 1) := by decide +kernel
theorem dX12_best_27 : decode cX12_best 27 = .ok (.iload_n 2, 1) := by decide +kernel
theorem dX12_best_28 : decode cX12_best 28 = .ok (.iload_n 3, 1) := by decide +kernel
theorem dX12_best_29 : decode cX12_best 29 = .ok (.invokestatic 481, 3) := by decide +kernel
theorem dX12_best_32 : decode cX12_best 32 = .ok (.ifCond .eq 18, 3) := by decide +kernel
theorem dX12_best_35 : decode cX12_best 35 = .ok (.iload 4, 2) := by decide +kernel
theorem dX12_best_37 : decode cX12_best 37 = .ok (.iconst 0, 1) := by decide +kernel
theorem dX12_best_38 : decode cX12_best 38 = .ok (.bipush 100, 2) := by decide +kernel
theorem dX12_best_40 : decode cX12_best 40 = .ok (.invokestatic 348, 3) := by decide +kernel
theorem dX12_best_43 : decode cX12_best 43 = .ok (.ifCond .eq 7, 3) := by decide +kernel
theorem dX12_best_46 : decode cX12_best 46 = .ok (.iconst 1, 1) := by decide +kernel
theorem dX12_best_47 : decode cX12_best 47 = .ok (.goto 4, 3) := by decide +kernel
theorem dX12_best_50 : decode cX12_best 50 = .ok (.iconst 0, 1) := by decide +kernel
theorem dX12_best_51 : decode cX12_best 51 = .ok (.iconst 2, 1) := by decide +kernel
theorem dX12_best_52 : decode cX12_best 52 = .ok (.invokevirtual 316, 3) := by decide +kernel
theorem dX12_best_55 : decode cX12_best 55 = .ok (.ifCond .ne 5, 3) := by decide +kernel
theorem dX12_best_58 : decode cX12_best 58 = .ok (.iconst 0, 1) := by decide +kernel
theorem dX12_best_59 : decode cX12_best 59 = .ok (.ireturn, 1) := by decide +kernel
theorem dX12_best_60 : decode cX12_best 60 = .ok (.bipush 15, 2) := by decide +kernel
theorem dX12_best_62 : decode cX12_best 62 = .ok (.bipush 6, 2) := by decide +kernel
theorem dX12_best_64 : decode cX12_best 64 = .ok (.iload_n 1, 1) := by decide +kernel
theorem dX12_best_65 : decode cX12_best 65 = .ok (.imul, 1) := by decide +kernel
theorem dX12_best_66 : decode cX12_best 66 = .ok (.iadd, 1) := by decide +kernel
theorem dX12_best_67 : decode cX12_best 67 = .ok (.istore 6, 2) := by decide +kernel
theorem dX12_best_69 : decode cX12_best 69 = .ok (.iconst 0, 1) := by decide +kernel
theorem dX12_best_70 : decode cX12_best 70 = .ok (.istore 7, 2) := by decide +kernel
theorem dX12_best_72 : decode cX12_best 72 = .ok (.iload 7, 2) := by decide +kernel
theorem dX12_best_74 : decode cX12_best 74 = .ok (.aload_n 0, 1) := by decide +kernel
theorem dX12_best_75 : decode cX12_best 75 = .ok (.getfield 329, 3) := by decide +kernel
theorem dX12_best_78 : decode cX12_best 78 = .ok (.if_icmp .ge 57, 3) := by decide +kernel
theorem dX12_best_81 : decode cX12_best 81 = .ok (.iload 6, 2) := by decide +kernel
theorem dX12_best_83 : decode cX12_best 83 = .ok (.iconst (-1), 1) := by decide +kernel
theorem dX12_best_84 : decode cX12_best 84 = .ok (.if_icmp .eq 51, 3) := by decide +kernel
theorem dX12_best_87 : decode cX12_best 87 = .ok (.aload_n 0, 1) := by decide +kernel
theorem dX12_best_88 : decode cX12_best 88 = .ok (.iload 7, 2) := by decide +kernel
theorem dX12_best_90 : decode cX12_best 90 = .ok (.iconst 1, 1) := by decide +kernel
theorem dX12_best_91 : decode cX12_best 91 = .ok (.invokevirtual 390, 3) := by decide +kernel
theorem dX12_best_94 : decode cX12_best 94 = .ok (.ifCond .ne 6, 3) := by decide +kernel
theorem dX12_best_97 : decode cX12_best 97 = .ok (.goto 32, 3) := by decide +kernel
theorem dX12_best_100 : decode cX12_best 100 = .ok (.aload_n 0, 1) := by decide +kernel
theorem dX12_best_101 : decode cX12_best 101 = .ok (.iload 7, 2) := by decide +kernel
theorem dX12_best_103 : decode cX12_best 103 = .ok (.iload_n 2, 1) := by decide +kernel
theorem dX12_best_104 : decode cX12_best 104 = .ok (.iload_n 3, 1) := by decide +kernel
theorem dX12_best_105 : decode cX12_best 105 = .ok (.iload 4, 2) := by decide +kernel
theorem dX12_best_107 : decode cX12_best 107 = .ok (.invokevirtual 488, 3) := by decide +kernel
theorem dX12_best_110 : decode cX12_best 110 = .ok (.istore 8, 2) := by decide +kernel
theorem dX12_best_112 : decode cX12_best 112 = .ok (.iload 8, 2) := by decide +kernel
theorem dX12_best_114 : decode cX12_best 114 = .ok (.iconst (-1), 1) := by decide +kernel
theorem dX12_best_115 : decode cX12_best 115 = .ok (.if_icmp .ne 7, 3) := by decide +kernel
theorem dX12_best_118 : decode cX12_best 118 = .ok (.iconst (-1), 1) := by decide +kernel
theorem dX12_best_119 : decode cX12_best 119 = .ok (.goto 8, 3) := by decide +kernel
theorem dX12_best_122 : decode cX12_best 122 = .ok (.iload 6, 2) := by decide +kernel
theorem dX12_best_124 : decode cX12_best 124 = .ok (.iload 8, 2) := by decide +kernel
theorem dX12_best_126 : decode cX12_best 126 = .ok (.iadd, 1) := by decide +kernel
theorem dX12_best_127 : decode cX12_best 127 = .ok (.istore 6, 2) := by decide +kernel
theorem dX12_best_129 : decode cX12_best 129 = .ok (.iinc 7 1, 3) := by decide +kernel
theorem dX12_best_132 : decode cX12_best 132 = .ok (.goto (-60), 3) := by decide +kernel
theorem dX12_best_135 : decode cX12_best 135 = .ok (.iconst 2, 1) := by decide +kernel
theorem dX12_best_136 : decode cX12_best 136 = .ok (.istore 7, 2) := by decide +kernel
theorem dX12_best_138 : decode cX12_best 138 = .ok (.bipush 20, 2) := by decide +kernel
theorem dX12_best_140 : decode cX12_best 140 = .ok (.iload_n 1, 1) := by decide +kernel
theorem dX12_best_141 : decode cX12_best 141 = .ok (.imul, 1) := by decide +kernel
theorem dX12_best_142 : decode cX12_best 142 = .ok (.istore 8, 2) := by decide +kernel
theorem dX12_best_144 : decode cX12_best 144 = .ok (.aload_n 0, 1) := by decide +kernel
theorem dX12_best_145 : decode cX12_best 145 = .ok (.iload_n 1, 1) := by decide +kernel
theorem dX12_best_146 : decode cX12_best 146 = .ok (.invokevirtual 502, 3) := by decide +kernel
theorem dX12_best_149 : decode cX12_best 149 = .ok (.istore 9, 2) := by decide +kernel
theorem dX12_best_151 : decode cX12_best 151 = .ok (.iload 9, 2) := by decide +kernel
theorem dX12_best_153 : decode cX12_best 153 = .ok (.iconst (-1), 1) := by decide +kernel
theorem dX12_best_154 : decode cX12_best 154 = .ok (.if_icmp .eq 17, 3) := by decide +kernel
theorem dX12_best_157 : decode cX12_best 157 = .ok (.iload 9, 2) := by decide +kernel
theorem dX12_best_159 : decode cX12_best 159 = .ok (.iload 8, 2) := by decide +kernel
theorem dX12_best_161 : decode cX12_best 161 = .ok (.if_icmp .gt 10, 3) := by decide +kernel
theorem dX12_best_164 : decode cX12_best 164 = .ok (.iconst 1, 1) := by decide +kernel
theorem dX12_best_165 : decode cX12_best 165 = .ok (.istore 7, 2) := by decide +kernel
theorem dX12_best_167 : decode cX12_best 167 = .ok (.iload 9, 2) := by decide +kernel
theorem dX12_best_169 : decode cX12_best 169 = .ok (.istore 8, 2) := by decide +kernel
theorem dX12_best_171 : decode cX12_best 171 = .ok (.iload 6, 2) := by decide +kernel
theorem dX12_best_173 : decode cX12_best 173 = .ok (.iconst (-1), 1) := by decide +kernel
theorem dX12_best_174 : decode cX12_best 174 = .ok (.if_icmp .eq 17, 3) := by decide +kernel
theorem dX12_best_177 : decode cX12_best 177 = .ok (.iload 6, 2) := by decide +kernel
theorem dX12_best_179 : decode cX12_best 179 = .ok (.iload 8, 2) := by decide +kernel
theorem dX12_best_181 : decode cX12_best 181 = .ok (.if_icmp .gt 10, 3) := by decide +kernel
theorem dX12_best_184 : decode cX12_best 184 = .ok (.iconst 0, 1) := by decide +kernel
theorem dX12_best_185 : decode cX12_best 185 = .ok (.istore 7, 2) := by decide +kernel
theorem dX12_best_187 : decode cX12_best 187 = .ok (.iload 6, 2) := by decide +kernel
theorem dX12_best_189 : decode cX12_best 189 = .ok (.istore 8, 2) := by decide +kernel
theorem dX12_best_191 : decode cX12_best 191 = .ok (.iload 5, 2) := by decide +kernel
theorem dX12_best_193 : decode cX12_best 193 = .ok (.ifCond .ne 8, 3) := by decide +kernel
theorem dX12_best_196 : decode cX12_best 196 = .ok (.iload 7, 2) := by decide +kernel
theorem dX12_best_198 : decode cX12_best 198 = .ok (.goto 5, 3) := by decide +kernel
theorem dX12_best_201 : decode cX12_best 201 = .ok (.iload 8, 2) := by decide +kernel
theorem dX12_best_203 : decode cX12_best 203 = .ok (.ireturn, 1) := by decide +kernel
theorem dX12_rides_0 : decode cX12_rides 0 = .ok (.aload_n 0, 1) := by decide +kernel
theorem dX12_rides_1 : decode cX12_rides 1 = .ok (.iconst 0, 1) := by decide +kernel
theorem dX12_rides_2 : decode cX12_rides 2 = .ok (.putfield 127, 3) := by decide +kernel
theorem dX12_rides_5 : decode cX12_rides 5 = .ok (.aload_n 0, 1) := by decide +kernel
theorem dX12_rides_6 : decode cX12_rides 6 = .ok (.iload_n 1, 1) := by decide +kernel
theorem dX12_rides_7 : decode cX12_rides 7 = .ok (.iconst 1, 1) := by decide +kernel
theorem dX12_rides_8 : decode cX12_rides 8 = .ok (.bipush 60, 2) := by decide +kernel
theorem dX12_rides_10 : decode cX12_rides 10 = .ok (.invokestatic 348, 3) := by decide +kernel
theorem dX12_rides_13 : decode cX12_rides 13 = .ok (.iconst 1, 1) := by decide +kernel
theorem dX12_rides_14 : decode cX12_rides 14 = .ok (.invokevirtual 316, 3) := by decide +kernel
theorem dX12_rides_17 : decode cX12_rides 17 = .ok (.ifCond .ne 5, 3) := by decide +kernel
theorem dX12_rides_20 : decode cX12_rides 20 = .ok (.iconst 0, 1) := by decide +kernel
theorem dX12_rides_21 : decode cX12_rides 21 = .ok (.ireturn, 1) := by decide +kernel
theorem dX12_rides_22 : decode cX12_rides 22 = .ok (.aload_n 0, 1) := by decide +kernel
theorem dX12_rides_23 : decode cX12_rides 23 = .ok (.iconst 1, 1) := by decide +kernel
theorem dX12_rides_24 : decode cX12_rides 24 = .ok (.invokevirtual 398, 3) := by decide +kernel
theorem dX12_rides_27 : decode cX12_rides 27 = .ok (.istore_n 2, 1) := by decide +kernel
theorem dX12_rides_28 : decode cX12_rides 28 = .ok (.iconst 0, 1) := by decide +kernel
theorem dX12_rides_29 : decode cX12_rides 29 = .ok (.istore_n 3, 1) := by decide +kernel
theorem dX12_rides_30 : decode cX12_rides 30 = .ok (.iconst 0, 1) := by decide +kernel
theorem dX12_rides_31 : decode cX12_rides 31 = .ok (.istore 4, 2) := by decide +kernel
theorem dX12_rides_33 : decode cX12_rides 33 = .ok (.iload 4, 2) := by decide +kernel
theorem dX12_rides_35 : decode cX12_rides 35 = .ok (.bipush 100, 2) := by decide +kernel
theorem dX12_rides_37 : decode cX12_rides 37 = .ok (.if_icmp .ge 70, 3) := by decide +kernel
theorem dX12_rides_40 : decode cX12_rides 40 = .ok (.sipush 1000, 3) := by decide +kernel
theorem dX12_rides_43 : decode cX12_rides 43 = .ok (.aload_n 0, 1) := by decide +kernel
theorem dX12_rides_44 : decode cX12_rides 44 = .ok (.getfield 22, 3) := by decide +kernel
theorem dX12_rides_47 : decode cX12_rides 47 = .ok (.imul, 1) := by decide +kernel
theorem dX12_rides_48 : decode cX12_rides 48 = .ok (.istore 5, 2) := by decide +kernel
theorem dX12_rides_50 : decode cX12_rides 50 = .ok (.iconst 0, 1) := by decide +kernel
theorem dX12_rides_51 : decode cX12_rides 51 = .ok (.istore 6, 2) := by decide +kernel
theorem dX12_rides_53 : decode cX12_rides 53 = .ok (.iload 6, 2) := by decide +kernel
theorem dX12_rides_55 : decode cX12_rides 55 = .ok (.bipush 6, 2) := by decide +kernel
theorem dX12_rides_57 : decode cX12_rides 57 = .ok (.iload_n 1, 1) := by decide +kernel
theorem dX12_rides_58 : decode cX12_rides 58 = .ok (.imul, 1) := by decide +kernel
theorem dX12_rides_59 : decode cX12_rides 59 = .ok (.if_icmp .ge 42, 3) := by decide +kernel
theorem dX12_rides_62 : decode cX12_rides 62 = .ok (.iload 5, 2) := by decide +kernel
theorem dX12_rides_64 : decode cX12_rides 64 = .ok (.aload_n 0, 1) := by decide +kernel
theorem dX12_rides_65 : decode cX12_rides 65 = .ok (.iload_n 2, 1) := by decide +kernel
theorem dX12_rides_66 : decode cX12_rides 66 = .ok (.iload 5, 2) := by decide +kernel
theorem dX12_rides_68 : decode cX12_rides 68 = .ok (.aload_n 0, 1) := by decide +kernel
theorem dX12_rides_69 : decode cX12_rides 69 = .ok (.getfield 355, 3) := by decide +kernel
theorem dX12_rides_72 : decode cX12_rides 72 = .ok (.iload_n 3, 1) := by decide +kernel
theorem dX12_rides_73 : decode cX12_rides 73 = .ok (.iadd, 1) := by decide +kernel
theorem dX12_rides_74 : decode cX12_rides 74 = .ok (.iconst 1, 1) := by decide +kernel
theorem dX12_rides_75 : decode cX12_rides 75 = .ok (.invokevirtual 402, 3) := by decide +kernel
theorem dX12_rides_78 : decode cX12_rides 78 = .ok (.isub, 1) := by decide +kernel
theorem dX12_rides_79 : decode cX12_rides 79 = .ok (.istore 5, 2) := by decide +kernel
theorem dX12_rides_81 : decode cX12_rides 81 = .ok (.iinc 3 1, 3) := by decide +kernel
theorem dX12_rides_84 : decode cX12_rides 84 = .ok (.iload 5, 2) := by decide +kernel
theorem dX12_rides_86 : decode cX12_rides 86 = .ok (.sipush 10000, 3) := by decide +kernel
theorem dX12_rides_89 : decode cX12_rides 89 = .ok (.if_icmp .ge 6, 3) := by decide +kernel
theorem dX12_rides_92 : decode cX12_rides 92 = .ok (.iload 4, 2) := by decide +kernel
theorem dX12_rides_94 : decode cX12_rides 94 = .ok (.ireturn, 1) := by decide +kernel
theorem dX12_rides_95 : decode cX12_rides 95 = .ok (.iinc 6 1, 3) := by decide +kernel
theorem dX12_rides_98 : decode cX12_rides 98 = .ok (.goto (-45), 3) := by decide +kernel
theorem dX12_rides_101 : decode cX12_rides 101 = .ok (.iinc 4 1, 3) := by decide +kernel
theorem dX12_rides_104 : decode cX12_rides 104 = .ok (.goto (-71), 3) := by decide +kernel
theorem dX12_rides_107 : decode cX12_rides 107 = .ok (.bipush 100, 2) := by decide +kernel
theorem dX12_rides_109 : decode cX12_rides 109 = .ok (.ireturn, 1) := by decide +kernel
theorem dX12_orders_0 : decode cX12_orders 0 = .ok (.iconst 0, 1) := by decide +kernel
theorem dX12_orders_1 : decode cX12_orders 1 = .ok (.istore_n 1, 1) := by decide +kernel
theorem dX12_orders_2 : decode cX12_orders 2 = .ok (.iload_n 1, 1) := by decide +kernel
theorem dX12_orders_3 : decode cX12_orders 3 = .ok (.aload_n 0, 1) := by decide +kernel
theorem dX12_orders_4 : decode cX12_orders 4 = .ok (.getfield 332, 3) := by decide +kernel
theorem dX12_orders_7 : decode cX12_orders 7 = .ok (.if_icmp .ge 97, 3) := by decide +kernel
theorem dX12_orders_10 : decode cX12_orders 10 = .ok (.iload_n 1, 1) := by decide +kernel
theorem dX12_orders_11 : decode cX12_orders 11 = .ok (.istore_n 2, 1) := by decide +kernel
theorem dX12_orders_12 : decode cX12_orders 12 = .ok (.iload_n 2, 1) := by decide +kernel
theorem dX12_orders_13 : decode cX12_orders 13 = .ok (.ifCond .le 78, 3) := by decide +kernel
theorem dX12_orders_16 : decode cX12_orders 16 = .ok (.aload_n 0, 1) := by decide +kernel
theorem dX12_orders_17 : decode cX12_orders 17 = .ok (.getfield 44, 3) := by decide +kernel
theorem dX12_orders_20 : decode cX12_orders 20 = .ok (.iconst 2, 1) := by decide +kernel
theorem dX12_orders_21 : decode cX12_orders 21 = .ok (.aload_n 0, 1) := by decide +kernel
theorem dX12_orders_22 : decode cX12_orders 22 = .ok (.getfield 112, 3) := by decide +kernel
theorem dX12_orders_25 : decode cX12_orders 25 = .ok (.iload_n 2, 1) := by decide +kernel
theorem dX12_orders_26 : decode cX12_orders 26 = .ok (.iconst 1, 1) := by decide +kernel
theorem dX12_orders_27 : decode cX12_orders 27 = .ok (.isub, 1) := by decide +kernel
theorem dX12_orders_28 : decode cX12_orders 28 = .ok (.iaload, 1) := by decide +kernel
theorem dX12_orders_29 : decode cX12_orders 29 = .ok (.imul, 1) := by decide +kernel
theorem dX12_orders_30 : decode cX12_orders 30 = .ok (.iaload, 1) := by decide +kernel
theorem dX12_orders_31 : decode cX12_orders 31 = .ok (.aload_n 0, 1) := by decide +kernel
theorem dX12_orders_32 : decode cX12_orders 32 = .ok (.getfield 44, 3) := by decide +kernel
theorem dX12_orders_35 : decode cX12_orders 35 = .ok (.iconst 2, 1) := by decide +kernel
theorem dX12_orders_36 : decode cX12_orders 36 = .ok (.iload_n 1, 1) := by decide +kernel
theorem dX12_orders_37 : decode cX12_orders 37 = .ok (.imul, 1) := by decide +kernel
theorem dX12_orders_38 : decode cX12_orders 38 = .ok (.iconst 1, 1) := by decide +kernel
theorem dX12_orders_39 : decode cX12_orders 39 = .ok (.iadd, 1) := by decide +kernel
theorem dX12_orders_40 : decode cX12_orders 40 = .ok (.iaload, 1) := by decide +kernel
theorem dX12_orders_41 : decode cX12_orders 41 = .ok (.imul, 1) := by decide +kernel
theorem dX12_orders_42 : decode cX12_orders 42 = .ok (.aload_n 0, 1) := by decide +kernel
theorem dX12_orders_43 : decode cX12_orders 43 = .ok (.getfield 44, 3) := by decide +kernel
theorem dX12_orders_46 : decode cX12_orders 46 = .ok (.iconst 2, 1) := by decide +kernel
theorem dX12_orders_47 : decode cX12_orders 47 = .ok (.iload_n 1, 1) := by decide +kernel
theorem dX12_orders_48 : decode cX12_orders 48 = .ok (.imul, 1) := by decide +kernel
theorem dX12_orders_49 : decode cX12_orders 49 = .ok (.iaload, 1) := by decide +kernel
theorem dX12_orders_50 : decode cX12_orders 50 = .ok (.aload_n 0, 1) := by decide +kernel
theorem dX12_orders_51 : decode cX12_orders 51 = .ok (.getfield 44, 3) := by decide +kernel
theorem dX12_orders_54 : decode cX12_orders 54 = .ok (.iconst 2, 1) := by decide +kernel
theorem dX12_orders_55 : decode cX12_orders 55 = .ok (.aload_n 0, 1) := by decide +kernel
theorem dX12_orders_56 : decode cX12_orders 56 = .ok (.getfield 112, 3) := by decide +kernel
theorem dX12_orders_59 : decode cX12_orders 59 = .ok (.iload_n 2, 1) := by decide +kernel
theorem dX12_orders_60 : decode cX12_orders 60 = .ok (.iconst 1, 1) := by decide +kernel
theorem dX12_orders_61 : decode cX12_orders 61 = .ok (.isub, 1) := by decide +kernel
theorem dX12_orders_62 : decode cX12_orders 62 = .ok (.iaload, 1) := by decide +kernel
theorem dX12_orders_63 : decode cX12_orders 63 = .ok (.imul, 1) := by decide +kernel
theorem dX12_orders_64 : decode cX12_orders 64 = .ok (.iconst 1, 1) := by decide +kernel
theorem dX12_orders_65 : decode cX12_orders 65 = .ok (.iadd, 1) := by decide +kernel
theorem dX12_orders_66 : decode cX12_orders 66 = .ok (.iaload, 1) := by decide +kernel
theorem dX12_orders_67 : decode cX12_orders 67 = .ok (.imul, 1) := by decide +kernel
theorem dX12_orders_68 : decode cX12_orders 68 = .ok (.if_icmp .le 23, 3) := by decide +kernel
theorem dX12_orders_71 : decode cX12_orders 71 = .ok (.aload_n 0, 1) := by decide +kernel
theorem dX12_orders_72 : decode cX12_orders 72 = .ok (.getfield 112, 3) := by decide +kernel
theorem dX12_orders_75 : decode cX12_orders 75 = .ok (.iload_n 2, 1) := by decide +kernel
theorem dX12_orders_76 : decode cX12_orders 76 = .ok (.aload_n 0, 1) := by decide +kernel
theorem dX12_orders_77 : decode cX12_orders 77 = .ok (.getfield 112, 3) := by decide +kernel
theorem dX12_orders_80 : decode cX12_orders 80 = .ok (.iload_n 2, 1) := by decide +kernel
theorem dX12_orders_81 : decode cX12_orders 81 = .ok (.iconst 1, 1) := by decide +kernel
theorem dX12_orders_82 : decode cX12_orders 82 = .ok (.isub, 1) := by decide +kernel
theorem dX12_orders_83 : decode cX12_orders 83 = .ok (.iaload, 1) := by decide +kernel
theorem dX12_orders_84 : decode cX12_orders 84 = .ok (.iastore, 1) := by decide +kernel
theorem dX12_orders_85 : decode cX12_orders 85 = .ok (.iinc 2 (-1), 3) := by decide +kernel
theorem dX12_orders_88 : decode cX12_orders 88 = .ok (.goto (-76), 3) := by decide +kernel
theorem dX12_orders_91 : decode cX12_orders 91 = .ok (.aload_n 0, 1) := by decide +kernel
theorem dX12_orders_92 : decode cX12_orders 92 = .ok (.getfield 112, 3) := by decide +kernel
theorem dX12_orders_95 : decode cX12_orders 95 = .ok (.iload_n 2, 1) := by decide +kernel
theorem dX12_orders_96 : decode cX12_orders 96 = .ok (.iload_n 1, 1) := by decide +kernel
theorem dX12_orders_97 : decode cX12_orders 97 = .ok (.iastore, 1) := by decide +kernel
theorem dX12_orders_98 : decode cX12_orders 98 = .ok (.iinc 1 1, 3) := by decide +kernel
theorem dX12_orders_101 : decode cX12_orders 101 = .ok (.goto (-99), 3) := by decide +kernel
theorem dX12_orders_104 : decode cX12_orders 104 = .ok (.return_, 1) := by decide +kernel
theorem dX12_dark_0 : decode cX12_dark 0 = .ok (.aload_n 0, 1) := by decide +kernel
theorem dX12_dark_1 : decode cX12_dark 1 = .ok (.iconst 0, 1) := by decide +kernel
theorem dX12_dark_2 : decode cX12_dark 2 = .ok (.putfield 127, 3) := by decide +kernel
theorem dX12_dark_5 : decode cX12_dark 5 = .ok (.aload_n 0, 1) := by decide +kernel
theorem dX12_dark_6 : decode cX12_dark 6 = .ok (.iload_n 1, 1) := by decide +kernel
theorem dX12_dark_7 : decode cX12_dark 7 = .ok (.ifCond .lt 7, 3) := by decide +kernel
theorem dX12_dark_10 : decode cX12_dark 10 = .ok (.iconst 1, 1) := by decide +kernel
theorem dX12_dark_11 : decode cX12_dark 11 = .ok (.goto 4, 3) := by decide +kernel
theorem dX12_dark_14 : decode cX12_dark 14 = .ok (.iconst 0, 1) := by decide +kernel
theorem dX12_dark_15 : decode cX12_dark 15 = .ok (.iconst 1, 1) := by decide +kernel
theorem dX12_dark_16 : decode cX12_dark 16 = .ok (.invokevirtual 316, 3) := by decide +kernel
theorem dX12_dark_19 : decode cX12_dark 19 = .ok (.ifCond .ne 5, 3) := by decide +kernel
theorem dX12_dark_22 : decode cX12_dark 22 = .ok (.iconst 0, 1) := by decide +kernel
theorem dX12_dark_23 : decode cX12_dark 23 = .ok (.ireturn, 1) := by decide +kernel
theorem dX12_dark_24 : decode cX12_dark 24 = .ok (.aload_n 0, 1) := by decide +kernel
theorem dX12_dark_25 : decode cX12_dark 25 = .ok (.invokevirtual 505, 3) := by decide +kernel
theorem dX12_dark_28 : decode cX12_dark 28 = .ok (.iload_n 1, 1) := by decide +kernel
theorem dX12_dark_29 : decode cX12_dark 29 = .ok (.aload_n 0, 1) := by decide +kernel
theorem dX12_dark_30 : decode cX12_dark 30 = .ok (.getfield 332, 3) := by decide +kernel
theorem dX12_dark_33 : decode cX12_dark 33 = .ok (.if_icmp .ge 12, 3) := by decide +kernel
theorem dX12_dark_36 : decode cX12_dark 36 = .ok (.aload_n 0, 1) := by decide +kernel
theorem dX12_dark_37 : decode cX12_dark 37 = .ok (.getfield 112, 3) := by decide +kernel
theorem dX12_dark_40 : decode cX12_dark 40 = .ok (.iload_n 1, 1) := by decide +kernel
theorem dX12_dark_41 : decode cX12_dark 41 = .ok (.iaload, 1) := by decide +kernel
theorem dX12_dark_42 : decode cX12_dark 42 = .ok (.goto 4, 3) := by decide +kernel
theorem dX12_dark_45 : decode cX12_dark 45 = .ok (.iconst (-1), 1) := by decide +kernel
theorem dX12_dark_46 : decode cX12_dark 46 = .ok (.ireturn, 1) := by decide +kernel
theorem dX12_mean_0 : decode cX12_mean 0 = .ok (.aload_n 0, 1) := by decide +kernel
theorem dX12_mean_1 : decode cX12_mean 1 = .ok (.iconst 0, 1) := by decide +kernel
theorem dX12_mean_2 : decode cX12_mean 2 = .ok (.putfield 127, 3) := by decide +kernel
theorem dX12_mean_5 : decode cX12_mean 5 = .ok (.aload_n 0, 1) := by decide +kernel
theorem dX12_mean_6 : decode cX12_mean 6 = .ok (.iload_n 1, 1) := by decide +kernel
theorem dX12_mean_7 : decode cX12_mean 7 = .ok (.iconst 1, 1) := by decide +kernel
theorem dX12_mean_8 : decode cX12_mean 8 = .ok (.invokevirtual 364, 3) := by decide +kernel
theorem dX12_mean_11 : decode cX12_mean 11 = .ok (.ifCond .ne 5, 3) := by decide +kernel
theorem dX12_mean_14 : decode cX12_mean 14 = .ok (.iconst 0, 1) := by decide +kernel
theorem dX12_mean_15 : decode cX12_mean 15 = .ok (.ireturn, 1) := by decide +kernel
theorem dX12_mean_16 : decode cX12_mean 16 = .ok (.aload_n 0, 1) := by decide +kernel
theorem dX12_mean_17 : decode cX12_mean 17 = .ok (.invokevirtual 505, 3) := by decide +kernel
theorem dX12_mean_20 : decode cX12_mean 20 = .ok (.iconst 0, 1) := by decide +kernel
theorem dX12_mean_21 : decode cX12_mean 21 = .ok (.istore_n 2, 1) := by decide +kernel
theorem dX12_mean_22 : decode cX12_mean 22 = .ok (.iconst 0, 1) := by decide +kernel
theorem dX12_mean_23 : decode cX12_mean 23 = .ok (.istore_n 3, 1) := by decide +kernel
theorem dX12_mean_24 : decode cX12_mean 24 = .ok (.iconst 0, 1) := by decide +kernel
theorem dX12_mean_25 : decode cX12_mean 25 = .ok (.istore 4, 2) := by decide +kernel
theorem dX12_mean_27 : decode cX12_mean 27 = .ok (.iconst 0, 1) := by decide +kernel
theorem dX12_mean_28 : decode cX12_mean 28 = .ok (.istore 5, 2) := by decide +kernel
theorem dX12_mean_30 : decode cX12_mean 30 = .ok (.iload 5, 2) := by decide +kernel
theorem dX12_mean_32 : decode cX12_mean 32 = .ok (.aload_n 0, 1) := by decide +kernel
theorem dX12_mean_33 : decode cX12_mean 33 = .ok (.getfield 332, 3) := by decide +kernel
theorem dX12_mean_36 : decode cX12_mean 36 = .ok (.if_icmp .ge 68, 3) := by decide +kernel
theorem dX12_mean_39 : decode cX12_mean 39 = .ok (.iload_n 2, 1) := by decide +kernel
theorem dX12_mean_40 : decode cX12_mean 40 = .ok (.aload_n 0, 1) := by decide +kernel
theorem dX12_mean_41 : decode cX12_mean 41 = .ok (.getfield 44, 3) := by decide +kernel
theorem dX12_mean_44 : decode cX12_mean 44 = .ok (.iconst 2, 1) := by decide +kernel
theorem dX12_mean_45 : decode cX12_mean 45 = .ok (.aload_n 0, 1) := by decide +kernel
theorem dX12_mean_46 : decode cX12_mean 46 = .ok (.getfield 112, 3) := by decide +kernel
theorem dX12_mean_49 : decode cX12_mean 49 = .ok (.iload 5, 2) := by decide +kernel
theorem dX12_mean_51 : decode cX12_mean 51 = .ok (.iaload, 1) := by decide +kernel
theorem dX12_mean_52 : decode cX12_mean 52 = .ok (.imul, 1) := by decide +kernel
theorem dX12_mean_53 : decode cX12_mean 53 = .ok (.iaload, 1) := by decide +kernel
theorem dX12_mean_54 : decode cX12_mean 54 = .ok (.iadd, 1) := by decide +kernel
theorem dX12_mean_55 : decode cX12_mean 55 = .ok (.istore_n 2, 1) := by decide +kernel
theorem dX12_mean_56 : decode cX12_mean 56 = .ok (.iload_n 3, 1) := by decide +kernel
theorem dX12_mean_57 : decode cX12_mean 57 = .ok (.iload_n 2, 1) := by decide +kernel
theorem dX12_mean_58 : decode cX12_mean 58 = .ok (.aload_n 0, 1) := by decide +kernel
theorem dX12_mean_59 : decode cX12_mean 59 = .ok (.getfield 44, 3) := by decide +kernel
theorem dX12_mean_62 : decode cX12_mean 62 = .ok (.iconst 2, 1) := by decide +kernel
theorem dX12_mean_63 : decode cX12_mean 63 = .ok (.aload_n 0, 1) := by decide +kernel
theorem dX12_mean_64 : decode cX12_mean 64 = .ok (.getfield 112, 3) := by decide +kernel
theorem dX12_mean_67 : decode cX12_mean 67 = .ok (.iload 5, 2) := by decide +kernel
theorem dX12_mean_69 : decode cX12_mean 69 = .ok (.iaload, 1) := by decide +kernel
theorem dX12_mean_70 : decode cX12_mean 70 = .ok (.imul, 1) := by decide +kernel
theorem dX12_mean_71 : decode cX12_mean 71 = .ok (.iconst 1, 1) := by decide +kernel
theorem dX12_mean_72 : decode cX12_mean 72 = .ok (.iadd, 1) := by decide +kernel
theorem dX12_mean_73 : decode cX12_mean 73 = .ok (.iaload, 1) := by decide +kernel
theorem dX12_mean_74 : decode cX12_mean 74 = .ok (.imul, 1) := by decide +kernel
theorem dX12_mean_75 : decode cX12_mean 75 = .ok (.iadd, 1) := by decide +kernel
theorem dX12_mean_76 : decode cX12_mean 76 = .ok (.istore_n 3, 1) := by decide +kernel
theorem dX12_mean_77 : decode cX12_mean 77 = .ok (.iload 4, 2) := by decide +kernel
theorem dX12_mean_79 : decode cX12_mean 79 = .ok (.aload_n 0, 1) := by decide +kernel
theorem dX12_mean_80 : decode cX12_mean 80 = .ok (.getfield 44, 3) := by decide +kernel
theorem dX12_mean_83 : decode cX12_mean 83 = .ok (.iconst 2, 1) := by decide +kernel
theorem dX12_mean_84 : decode cX12_mean 84 = .ok (.aload_n 0, 1) := by decide +kernel
theorem dX12_mean_85 : decode cX12_mean 85 = .ok (.getfield 112, 3) := by decide +kernel
theorem dX12_mean_88 : decode cX12_mean 88 = .ok (.iload 5, 2) := by decide +kernel
theorem dX12_mean_90 : decode cX12_mean 90 = .ok (.iaload, 1) := by decide +kernel
theorem dX12_mean_91 : decode cX12_mean 91 = .ok (.imul, 1) := by decide +kernel
theorem dX12_mean_92 : decode cX12_mean 92 = .ok (.iconst 1, 1) := by decide +kernel
theorem dX12_mean_93 : decode cX12_mean 93 = .ok (.iadd, 1) := by decide +kernel
theorem dX12_mean_94 : decode cX12_mean 94 = .ok (.iaload, 1) := by decide +kernel
theorem dX12_mean_95 : decode cX12_mean 95 = .ok (.iadd, 1) := by decide +kernel
theorem dX12_mean_96 : decode cX12_mean 96 = .ok (.istore 4, 2) := by decide +kernel
theorem dX12_mean_98 : decode cX12_mean 98 = .ok (.iinc 5 1, 3) := by decide +kernel
theorem dX12_mean_101 : decode cX12_mean 101 = .ok (.goto (-71), 3) := by decide +kernel
theorem dX12_mean_104 : decode cX12_mean 104 = .ok (.iload_n 1, 1) := by decide +kernel
theorem dX12_mean_105 : decode cX12_mean 105 = .ok (.ifCond .ne 7, 3) := by decide +kernel
theorem dX12_mean_108 : decode cX12_mean 108 = .ok (.iload_n 3, 1) := by decide +kernel
theorem dX12_mean_109 : decode cX12_mean 109 = .ok (.goto 5, 3) := by decide +kernel
theorem dX12_mean_112 : decode cX12_mean 112 = .ok (.iload 4, 2) := by decide +kernel
theorem dX12_mean_114 : decode cX12_mean 114 = .ok (.ireturn, 1) := by decide +kernel
theorem dX12_isTacked_0 : decode cX12_isTacked 0 = .ok (.iconst 0, 1) := by decide +kernel
theorem dX12_isTacked_1 : decode cX12_isTacked 1 = .ok (.istore_n 3, 1) := by decide +kernel
theorem dX12_isTacked_2 : decode cX12_isTacked 2 = .ok (.iload_n 3, 1) := by decide +kernel
theorem dX12_isTacked_3 : decode cX12_isTacked 3 = .ok (.aload_n 0, 1) := by decide +kernel
theorem dX12_isTacked_4 : decode cX12_isTacked 4 = .ok (.getfield 335, 3) := by decide +kernel
theorem dX12_isTacked_7 : decode cX12_isTacked 7 = .ok (.if_icmp .ge 112, 3) := by decide +kernel
theorem dX12_isTacked_10 : decode cX12_isTacked 10 = .ok (.aload_n 0, 1) := by decide +kernel
theorem dX12_isTacked_11 : decode cX12_isTacked 11 = .ok (.getfield 47, 3) := by decide +kernel
theorem dX12_isTacked_14 : decode cX12_isTacked 14 = .ok (.iconst 4, 1) := by decide +kernel
theorem dX12_isTacked_15 : decode cX12_isTacked 15 = .ok (.iload_n 3, 1) := by decide +kernel
theorem dX12_isTacked_16 : decode cX12_isTacked 16 = .ok (.imul, 1) := by decide +kernel
theorem dX12_isTacked_17 : decode cX12_isTacked 17 = .ok (.iaload, 1) := by decide +kernel
theorem dX12_isTacked_18 : decode cX12_isTacked 18 = .ok (.istore 4, 2) := by decide +kernel
theorem dX12_isTacked_20 : decode cX12_isTacked 20 = .ok (.aload_n 0, 1) := by decide +kernel
theorem dX12_isTacked_21 : decode cX12_isTacked 21 = .ok (.getfield 47, 3) := by decide +kernel
theorem dX12_isTacked_24 : decode cX12_isTacked 24 = .ok (.iconst 4, 1) := by decide +kernel
theorem dX12_isTacked_25 : decode cX12_isTacked 25 = .ok (.iload_n 3, 1) := by decide +kernel
theorem dX12_isTacked_26 : decode cX12_isTacked 26 = .ok (.imul, 1) := by decide +kernel
theorem dX12_isTacked_27 : decode cX12_isTacked 27 = .ok (.iconst 1, 1) := by decide +kernel
theorem dX12_isTacked_28 : decode cX12_isTacked 28 = .ok (.iadd, 1) := by decide +kernel
theorem dX12_isTacked_29 : decode cX12_isTacked 29 = .ok (.iaload, 1) := by decide +kernel
theorem dX12_isTacked_30 : decode cX12_isTacked 30 = .ok (.istore 5, 2) := by decide +kernel
theorem dX12_isTacked_32 : decode cX12_isTacked 32 = .ok (.iload 4, 2) := by decide +kernel
theorem dX12_isTacked_34 : decode cX12_isTacked 34 = .ok (.iload 5, 2) := by decide +kernel
theorem dX12_isTacked_36 : decode cX12_isTacked 36 = .ok (.if_icmp .ge 18, 3) := by decide +kernel
theorem dX12_isTacked_39 : decode cX12_isTacked 39 = .ok (.iload_n 1, 1) := by decide +kernel
theorem dX12_isTacked_40 : decode cX12_isTacked 40 = .ok (.iload 4, 2) := by decide +kernel
theorem dX12_isTacked_42 : decode cX12_isTacked 42 = .ok (.if_icmp .lt 42, 3) := by decide +kernel
theorem dX12_isTacked_45 : decode cX12_isTacked 45 = .ok (.iload_n 1, 1) := by decide +kernel
theorem dX12_isTacked_46 : decode cX12_isTacked 46 = .ok (.iload 5, 2) := by decide +kernel
theorem dX12_isTacked_48 : decode cX12_isTacked 48 = .ok (.if_icmp .gt 36, 3) := by decide +kernel
theorem dX12_isTacked_51 : decode cX12_isTacked 51 = .ok (.goto 15, 3) := by decide +kernel
theorem dX12_isTacked_54 : decode cX12_isTacked 54 = .ok (.iload_n 1, 1) := by decide +kernel
theorem dX12_isTacked_55 : decode cX12_isTacked 55 = .ok (.iload 5, 2) := by decide +kernel
theorem dX12_isTacked_57 : decode cX12_isTacked 57 = .ok (.if_icmp .lt 27, 3) := by decide +kernel
theorem dX12_isTacked_60 : decode cX12_isTacked 60 = .ok (.iload_n 1, 1) := by decide +kernel
theorem dX12_isTacked_61 : decode cX12_isTacked 61 = .ok (.iload 4, 2) := by decide +kernel
theorem dX12_isTacked_63 : decode cX12_isTacked 63 = .ok (.if_icmp .gt 21, 3) := by decide +kernel
theorem dX12_isTacked_66 : decode cX12_isTacked 66 = .ok (.aload_n 0, 1) := by decide +kernel
theorem dX12_isTacked_67 : decode cX12_isTacked 67 = .ok (.getfield 47, 3) := by decide +kernel
theorem dX12_isTacked_70 : decode cX12_isTacked 70 = .ok (.iconst 4, 1) := by decide +kernel
theorem dX12_isTacked_71 : decode cX12_isTacked 71 = .ok (.iload_n 3, 1) := by decide +kernel
theorem dX12_isTacked_72 : decode cX12_isTacked 72 = .ok (.imul, 1) := by decide +kernel
theorem dX12_isTacked_73 : decode cX12_isTacked 73 = .ok (.iconst 2, 1) := by decide +kernel
theorem dX12_isTacked_74 : decode cX12_isTacked 74 = .ok (.iadd, 1) := by decide +kernel
theorem dX12_isTacked_75 : decode cX12_isTacked 75 = .ok (.iaload, 1) := by decide +kernel
theorem dX12_isTacked_76 : decode cX12_isTacked 76 = .ok (.iload_n 2, 1) := by decide +kernel
theorem dX12_isTacked_77 : decode cX12_isTacked 77 = .ok (.if_icmp .lt 7, 3) := by decide +kernel
theorem dX12_isTacked_80 : decode cX12_isTacked 80 = .ok (.iconst 1, 1) := by decide +kernel
theorem dX12_isTacked_81 : decode cX12_isTacked 81 = .ok (.goto 4, 3) := by decide +kernel
theorem dX12_isTacked_84 : decode cX12_isTacked 84 = .ok (.iconst 0, 1) := by decide +kernel
theorem dX12_isTacked_85 : decode cX12_isTacked 85 = .ok (.istore 6, 2) := by decide +kernel
theorem dX12_isTacked_87 : decode cX12_isTacked 87 = .ok (.iload 6, 2) := by decide +kernel
theorem dX12_isTacked_89 : decode cX12_isTacked 89 = .ok (.aload_n 0, 1) := by decide +kernel
theorem dX12_isTacked_90 : decode cX12_isTacked 90 = .ok (.getfield 47, 3) := by decide +kernel
theorem dX12_isTacked_93 : decode cX12_isTacked 93 = .ok (.iconst 4, 1) := by decide +kernel
theorem dX12_isTacked_94 : decode cX12_isTacked 94 = .ok (.iload_n 3, 1) := by decide +kernel
theorem dX12_isTacked_95 : decode cX12_isTacked 95 = .ok (.imul, 1) := by decide +kernel
theorem dX12_isTacked_96 : decode cX12_isTacked 96 = .ok (.iconst 3, 1) := by decide +kernel
theorem dX12_isTacked_97 : decode cX12_isTacked 97 = .ok (.iadd, 1) := by decide +kernel
theorem dX12_isTacked_98 : decode cX12_isTacked 98 = .ok (.iaload, 1) := by decide +kernel
theorem dX12_isTacked_99 : decode cX12_isTacked 99 = .ok (.iconst 1, 1) := by decide +kernel
theorem dX12_isTacked_100 : decode cX12_isTacked 100 = .ok (.if_icmp .ne 7, 3) := by decide +kernel
theorem dX12_isTacked_103 : decode cX12_isTacked 103 = .ok (.iconst 1, 1) := by decide +kernel
theorem dX12_isTacked_104 : decode cX12_isTacked 104 = .ok (.goto 4, 3) := by decide +kernel
theorem dX12_isTacked_107 : decode cX12_isTacked 107 = .ok (.iconst 0, 1) := by decide +kernel
theorem dX12_isTacked_108 : decode cX12_isTacked 108 = .ok (.if_icmp .eq 5, 3) := by decide +kernel
theorem dX12_isTacked_111 : decode cX12_isTacked 111 = .ok (.iconst 0, 1) := by decide +kernel
theorem dX12_isTacked_112 : decode cX12_isTacked 112 = .ok (.ireturn, 1) := by decide +kernel
theorem dX12_isTacked_113 : decode cX12_isTacked 113 = .ok (.iinc 3 1, 3) := by decide +kernel
theorem dX12_isTacked_116 : decode cX12_isTacked 116 = .ok (.goto (-114), 3) := by decide +kernel
theorem dX12_isTacked_119 : decode cX12_isTacked 119 = .ok (.iconst 1, 1) := by decide +kernel
theorem dX12_isTacked_120 : decode cX12_isTacked 120 = .ok (.ireturn, 1) := by decide +kernel
