theorem dX12_thrown_0 : decode cX12_thrown 0 = .ok (.aload_n 0, 1) := by decide +kernel
theorem dX12_thrown_1 : decode cX12_thrown 1 = .ok (.getfield 127, 3) := by decide +kernel
theorem dX12_thrown_4 : decode cX12_thrown 4 = .ok (.ireturn, 1) := by decide +kernel
theorem dX12_right_0 : decode cX12_right 0 = .ok (.aload_n 0, 1) := by decide +kernel
theorem dX12_right_1 : decode cX12_right 1 = .ok (.getfield 127, 3) := by decide +kernel
theorem dX12_right_4 : decode cX12_right 4 = .ok (.ifCond .ne 12, 3) := by decide +kernel
theorem dX12_right_7 : decode cX12_right 7 = .ok (.iload_n 1, 1) := by decide +kernel
theorem dX12_right_8 : decode cX12_right 8 = .ok (.ifCond .ne 8, 3) := by decide +kernel
theorem dX12_right_11 : decode cX12_right 11 = .ok (.aload_n 0, 1) := by decide +kernel
theorem dX12_right_12 : decode cX12_right 12 = .ok (.iload_n 2, 1) := by decide +kernel
theorem dX12_right_13 : decode cX12_right 13 = .ok (.putfield 127, 3) := by decide +kernel
theorem dX12_right_16 : decode cX12_right 16 = .ok (.aload_n 0, 1) := by decide +kernel
theorem dX12_right_17 : decode cX12_right 17 = .ok (.getfield 127, 3) := by decide +kernel
theorem dX12_right_20 : decode cX12_right 20 = .ok (.ifCond .ne 7, 3) := by decide +kernel
theorem dX12_right_23 : decode cX12_right 23 = .ok (.iconst 1, 1) := by decide +kernel
theorem dX12_right_24 : decode cX12_right 24 = .ok (.goto 4, 3) := by decide +kernel
theorem dX12_right_27 : decode cX12_right 27 = .ok (.iconst 0, 1) := by decide +kernel
theorem dX12_right_28 : decode cX12_right 28 = .ok (.ireturn, 1) := by decide +kernel
theorem dX12_within_0 : decode cX12_within 0 = .ok (.iload_n 0, 1) := by decide +kernel
theorem dX12_within_1 : decode cX12_within 1 = .ok (.iload_n 1, 1) := by decide +kernel
theorem dX12_within_2 : decode cX12_within 2 = .ok (.if_icmp .lt 12, 3) := by decide +kernel
theorem dX12_within_5 : decode cX12_within 5 = .ok (.iload_n 0, 1) := by decide +kernel
theorem dX12_within_6 : decode cX12_within 6 = .ok (.iload_n 2, 1) := by decide +kernel
theorem dX12_within_7 : decode cX12_within 7 = .ok (.if_icmp .gt 7, 3) := by decide +kernel
theorem dX12_within_10 : decode cX12_within 10 = .ok (.iconst 1, 1) := by decide +kernel
theorem dX12_within_11 : decode cX12_within 11 = .ok (.goto 4, 3) := by decide +kernel
theorem dX12_within_14 : decode cX12_within 14 = .ok (.iconst 0, 1) := by decide +kernel
theorem dX12_within_15 : decode cX12_within 15 = .ok (.ireturn, 1) := by decide +kernel
theorem dX12_copies_0 : decode cX12_copies 0 = .ok (.iconst 0, 1) := by decide +kernel
theorem dX12_copies_1 : decode cX12_copies 1 = .ok (.istore_n 3, 1) := by decide +kernel
theorem dX12_copies_2 : decode cX12_copies 2 = .ok (.iload_n 3, 1) := by decide +kernel
theorem dX12_copies_3 : decode cX12_copies 3 = .ok (.aload_n 1, 1) := by decide +kernel
theorem dX12_copies_4 : decode cX12_copies 4 = .ok (.arraylength, 1) := by decide +kernel
theorem dX12_copies_5 : decode cX12_copies 5 = .ok (.if_icmp .ge 15, 3) := by decide +kernel
theorem dX12_copies_8 : decode cX12_copies 8 = .ok (.aload_n 2, 1) := by decide +kernel
theorem dX12_copies_9 : decode cX12_copies 9 = .ok (.iload_n 3, 1) := by decide +kernel
theorem dX12_copies_10 : decode cX12_copies 10 = .ok (.aload_n 1, 1) := by decide +kernel
theorem dX12_copies_11 : decode cX12_copies 11 = .ok (.iload_n 3, 1) := by decide +kernel
theorem dX12_copies_12 : decode cX12_copies 12 = .ok (.iaload, 1) := by decide +kernel
theorem dX12_copies_13 : decode cX12_copies 13 = .ok (.iastore, 1) := by decide +kernel
theorem dX12_copies_14 : decode cX12_copies 14 = .ok (.iinc 3 1, 3) := by decide +kernel
theorem dX12_copies_17 : decode cX12_copies 17 = .ok (.goto (-15), 3) := by decide +kernel
theorem dX12_copies_20 : decode cX12_copies 20 = .ok (.return_, 1) := by decide +kernel
theorem dX12_feed_0 : decode cX12_feed 0 = .ok (.aload_n 0, 1) := by decide +kernel
theorem dX12_feed_1 : decode cX12_feed 1 = .ok (.iconst 0, 1) := by decide +kernel
theorem dX12_feed_2 : decode cX12_feed 2 = .ok (.putfield 127, 3) := by decide +kernel
theorem dX12_feed_5 : decode cX12_feed 5 = .ok (.aload_n 0, 1) := by decide +kernel
theorem dX12_feed_6 : decode cX12_feed 6 = .ok (.getfield 130, 3) := by decide +kernel
theorem dX12_feed_9 : decode cX12_feed 9 = .ok (.bipush 20, 2) := by decide +kernel
theorem dX12_feed_11 : decode cX12_feed 11 = .ok (.iadd, 1) := by decide +kernel
theorem dX12_feed_12 : decode cX12_feed 12 = .ok (.sipush 700, 3) := by decide +kernel
theorem dX12_feed_15 : decode cX12_feed 15 = .ok (.if_icmp .le 5, 3) := by decide +kernel
theorem dX12_feed_18 : decode cX12_feed 18 = .ok (.iconst (-1), 1) := by decide +kernel
theorem dX12_feed_19 : decode cX12_feed 19 = .ok (.ireturn, 1) := by decide +kernel
theorem dX12_feed_20 : decode cX12_feed 20 = .ok (.aload_n 0, 1) := by decide +kernel
theorem dX12_feed_21 : decode cX12_feed 21 = .ok (.iload_n 1, 1) := by decide +kernel
theorem dX12_feed_22 : decode cX12_feed 22 = .ok (.invokevirtual 133, 3) := by decide +kernel
theorem dX12_feed_25 : decode cX12_feed 25 = .ok (.aload_n 0, 1) := by decide +kernel
theorem dX12_feed_26 : decode cX12_feed 26 = .ok (.iload_n 2, 1) := by decide +kernel
theorem dX12_feed_27 : decode cX12_feed 27 = .ok (.invokevirtual 133, 3) := by decide +kernel
theorem dX12_feed_30 : decode cX12_feed 30 = .ok (.aload_n 0, 1) := by decide +kernel
theorem dX12_feed_31 : decode cX12_feed 31 = .ok (.iload_n 3, 1) := by decide +kernel
theorem dX12_feed_32 : decode cX12_feed 32 = .ok (.invokevirtual 133, 3) := by decide +kernel
theorem dX12_feed_35 : decode cX12_feed 35 = .ok (.aload_n 0, 1) := by decide +kernel
theorem dX12_feed_36 : decode cX12_feed 36 = .ok (.iload 4, 2) := by decide +kernel
theorem dX12_feed_38 : decode cX12_feed 38 = .ok (.invokevirtual 133, 3) := by decide +kernel
theorem dX12_feed_41 : decode cX12_feed 41 = .ok (.aload_n 0, 1) := by decide +kernel
theorem dX12_feed_42 : decode cX12_feed 42 = .ok (.iload 5, 2) := by decide +kernel
theorem dX12_feed_44 : decode cX12_feed 44 = .ok (.invokevirtual 133, 3) := by decide +kernel
theorem dX12_feed_47 : decode cX12_feed 47 = .ok (.aload_n 0, 1) := by decide +kernel
theorem dX12_feed_48 : decode cX12_feed 48 = .ok (.getfield 130, 3) := by decide +kernel
theorem dX12_feed_51 : decode cX12_feed 51 = .ok (.ireturn, 1) := by decide +kernel
theorem dX12_lays_0 : decode cX12_lays 0 = .ok (.bipush 24, 2) := by decide +kernel
theorem dX12_lays_2 : decode cX12_lays 2 = .ok (.istore_n 2, 1) := by decide +kernel
theorem dX12_lays_3 : decode cX12_lays 3 = .ok (.iload_n 2, 1) := by decide +kernel
theorem dX12_lays_4 : decode cX12_lays 4 = .ok (.ifCond .lt 35, 3) := by decide +kernel
theorem dX12_lays_7 : decode cX12_lays 7 = .ok (.aload_n 0, 1) := by decide +kernel
theorem dX12_lays_8 : decode cX12_lays 8 = .ok (.getfield 53, 3) := by decide +kernel
theorem dX12_lays_11 : decode cX12_lays 11 = .ok (.aload_n 0, 1) := by decide +kernel
theorem dX12_lays_12 : decode cX12_lays 12 = .ok (.getfield 130, 3) := by decide +kernel
theorem dX12_lays_15 : decode cX12_lays 15 = .ok (.iload_n 1, 1) := by decide +kernel
theorem dX12_lays_16 : decode cX12_lays 16 = .ok (.iload_n 2, 1) := by decide +kernel
theorem dX12_lays_17 : decode cX12_lays 17 = .ok (.ishr, 1) := by decide +kernel
theorem dX12_lays_18 : decode cX12_lays 18 = .ok (.sipush 255, 3) := by decide +kernel
theorem dX12_lays_21 : decode cX12_lays 21 = .ok (.iand, 1) := by decide +kernel
theorem dX12_lays_22 : decode cX12_lays 22 = .ok (.iastore, 1) := by decide +kernel
theorem dX12_lays_23 : decode cX12_lays 23 = .ok (.aload_n 0, 1) := by decide +kernel
theorem dX12_lays_24 : decode cX12_lays 24 = .ok (.dup, 1) := by decide +kernel
theorem dX12_lays_25 : decode cX12_lays 25 = .ok (.getfield 130, 3) := by decide +kernel
theorem dX12_lays_28 : decode cX12_lays 28 = .ok (.iconst 1, 1) := by decide +kernel
theorem dX12_lays_29 : decode cX12_lays 29 = .ok (.iadd, 1) := by decide +kernel
theorem dX12_lays_30 : decode cX12_lays 30 = .ok (.putfield 130, 3) := by decide +kernel
theorem dX12_lays_33 : decode cX12_lays 33 = .ok (.iinc 2 (-8), 3) := by decide +kernel
theorem dX12_lays_36 : decode cX12_lays 36 = .ok (.goto (-33), 3) := by decide +kernel
theorem dX12_lays_39 : decode cX12_lays 39 = .ok (.return_, 1) := by decide +kernel
theorem dX12_byteAt_0 : decode cX12_byteAt 0 = .ok (.iload_n 1, 1) := by decide +kernel
theorem dX12_byteAt_1 : decode cX12_byteAt 1 = .ok (.aload_n 0, 1) := by decide +kernel
theorem dX12_byteAt_2 : decode cX12_byteAt 2 = .ok (.getfield 137, 3) := by decide +kernel
theorem dX12_byteAt_5 : decode cX12_byteAt 5 = .ok (.if_icmp .ge 12, 3) := by decide +kernel
theorem dX12_byteAt_8 : decode cX12_byteAt 8 = .ok (.aload_n 0, 1) := by decide +kernel
theorem dX12_byteAt_9 : decode cX12_byteAt 9 = .ok (.getfield 53, 3) := by decide +kernel
theorem dX12_byteAt_12 : decode cX12_byteAt 12 = .ok (.iload_n 1, 1) := by decide +kernel
theorem dX12_byteAt_13 : decode cX12_byteAt 13 = .ok (.iaload, 1) := by decide +kernel
theorem dX12_byteAt_14 : decode cX12_byteAt 14 = .ok (.goto 4, 3) := by decide +kernel
theorem dX12_byteAt_17 : decode cX12_byteAt 17 = .ok (.iconst 0, 1) := by decide +kernel
theorem dX12_byteAt_18 : decode cX12_byteAt 18 = .ok (.ireturn, 1) := by decide +kernel
theorem dX12_isLetter_0 : decode cX12_isLetter 0 = .ok (.iload_n 0, 1) := by decide +kernel
theorem dX12_isLetter_1 : decode cX12_isLetter 1 = .ok (.bipush 97, 2) := by decide +kernel
theorem dX12_isLetter_3 : decode cX12_isLetter 3 = .ok (.if_icmp .lt 13, 3) := by decide +kernel
theorem dX12_isLetter_6 : decode cX12_isLetter 6 = .ok (.iload_n 0, 1) := by decide +kernel
theorem dX12_isLetter_7 : decode cX12_isLetter 7 = .ok (.bipush 122, 2) := by decide +kernel
theorem dX12_isLetter_9 : decode cX12_isLetter 9 = .ok (.if_icmp .gt 7, 3) := by decide +kernel
theorem dX12_isLetter_12 : decode cX12_isLetter 12 = .ok (.iconst 1, 1) := by decide +kernel
theorem dX12_isLetter_13 : decode cX12_isLetter 13 = .ok (.goto 4, 3) := by decide +kernel
theorem dX12_isLetter_16 : decode cX12_isLetter 16 = .ok (.iconst 0, 1) := by decide +kernel
theorem dX12_isLetter_17 : decode cX12_isLetter 17 = .ok (.ireturn, 1) := by decide +kernel
theorem dX12_isDigit_0 : decode cX12_isDigit 0 = .ok (.iload_n 0, 1) := by decide +kernel
theorem dX12_isDigit_1 : decode cX12_isDigit 1 = .ok (.bipush 48, 2) := by decide +kernel
theorem dX12_isDigit_3 : decode cX12_isDigit 3 = .ok (.if_icmp .lt 13, 3) := by decide +kernel
theorem dX12_isDigit_6 : decode cX12_isDigit 6 = .ok (.iload_n 0, 1) := by decide +kernel
theorem dX12_isDigit_7 : decode cX12_isDigit 7 = .ok (.bipush 57, 2) := by decide +kernel
theorem dX12_isDigit_9 : decode cX12_isDigit 9 = .ok (.if_icmp .gt 7, 3) := by decide +kernel
theorem dX12_isDigit_12 : decode cX12_isDigit 12 = .ok (.iconst 1, 1) := by decide +kernel
theorem dX12_isDigit_13 : decode cX12_isDigit 13 = .ok (.goto 4, 3) := by decide +kernel
theorem dX12_isDigit_16 : decode cX12_isDigit 16 = .ok (.iconst 0, 1) := by decide +kernel
theorem dX12_isDigit_17 : decode cX12_isDigit 17 = .ok (.ireturn, 1) := by decide +kernel
theorem dX12_goes_0 : decode cX12_goes 0 = .ok (.aload_n 0, 1) := by decide +kernel
theorem dX12_goes_1 : decode cX12_goes 1 = .ok (.getfield 140, 3) := by decide +kernel
theorem dX12_goes_4 : decode cX12_goes 4 = .ok (.aload_n 0, 1) := by decide +kernel
theorem dX12_goes_5 : decode cX12_goes 5 = .ok (.getfield 137, 3) := by decide +kernel
theorem dX12_goes_8 : decode cX12_goes 8 = .ok (.if_icmp .ge 42, 3) := by decide +kernel
theorem dX12_goes_11 : decode cX12_goes 11 = .ok (.aload_n 0, 1) := by decide +kernel
theorem dX12_goes_12 : decode cX12_goes 12 = .ok (.aload_n 0, 1) := by decide +kernel
theorem dX12_goes_13 : decode cX12_goes 13 = .ok (.getfield 140, 3) := by decide +kernel
theorem dX12_goes_16 : decode cX12_goes 16 = .ok (.invokevirtual 143, 3) := by decide +kernel
theorem dX12_goes_19 : decode cX12_goes 19 = .ok (.bipush 32, 2) := by decide +kernel
theorem dX12_goes_21 : decode cX12_goes 21 = .ok (.if_icmp .eq 16, 3) := by decide +kernel
theorem dX12_goes_24 : decode cX12_goes 24 = .ok (.aload_n 0, 1) := by decide +kernel
theorem dX12_goes_25 : decode cX12_goes 25 = .ok (.aload_n 0, 1) := by decide +kernel
theorem dX12_goes_26 : decode cX12_goes 26 = .ok (.getfield 140, 3) := by decide +kernel
theorem dX12_goes_29 : decode cX12_goes 29 = .ok (.invokevirtual 143, 3) := by decide +kernel
theorem dX12_goes_32 : decode cX12_goes 32 = .ok (.bipush 10, 2) := by decide +kernel
theorem dX12_goes_34 : decode cX12_goes 34 = .ok (.if_icmp .ne 16, 3) := by decide +kernel
theorem dX12_goes_37 : decode cX12_goes 37 = .ok (.aload_n 0, 1) := by decide +kernel
theorem dX12_goes_38 : decode cX12_goes 38 = .ok (.dup, 1) := by decide +kernel
theorem dX12_goes_39 : decode cX12_goes 39 = .ok (.getfield 140, 3) := by decide +kernel
theorem dX12_goes_42 : decode cX12_goes 42 = .ok (.iconst 1, 1) := by decide +kernel
theorem dX12_goes_43 : decode cX12_goes 43 = .ok (.iadd, 1) := by decide +kernel
theorem dX12_goes_44 : decode cX12_goes 44 = .ok (.putfield 140, 3) := by decide +kernel
theorem dX12_goes_47 : decode cX12_goes 47 = .ok (.goto (-47), 3) := by decide +kernel
theorem dX12_goes_50 : decode cX12_goes 50 = .ok (.aload_n 0, 1) := by decide +kernel
theorem dX12_goes_51 : decode cX12_goes 51 = .ok (.aload_n 0, 1) := by decide +kernel
theorem dX12_goes_52 : decode cX12_goes 52 = .ok (.getfield 140, 3) := by decide +kernel
theorem dX12_goes_55 : decode cX12_goes 55 = .ok (.putfield 147, 3) := by decide +kernel
theorem dX12_goes_58 : decode cX12_goes 58 = .ok (.aload_n 0, 1) := by decide +kernel
theorem dX12_goes_59 : decode cX12_goes 59 = .ok (.lconst 0, 1) := by decide +kernel
theorem dX12_goes_60 : decode cX12_goes 60 = .ok (.putfield 150, 3) := by decide +kernel
theorem dX12_goes_63 : decode cX12_goes 63 = .ok (.aload_n 0, 1) := by decide +kernel
theorem dX12_goes_64 : decode cX12_goes 64 = .ok (.iconst 0, 1) := by decide +kernel
theorem dX12_goes_65 : decode cX12_goes 65 = .ok (.putfield 154, 3) := by decide +kernel
theorem dX12_goes_68 : decode cX12_goes 68 = .ok (.aload_n 0, 1) := by decide +kernel
theorem dX12_goes_69 : decode cX12_goes 69 = .ok (.aload_n 0, 1) := by decide +kernel
theorem dX12_goes_70 : decode cX12_goes 70 = .ok (.getfield 140, 3) := by decide +kernel
theorem dX12_goes_73 : decode cX12_goes 73 = .ok (.invokevirtual 143, 3) := by decide +kernel
theorem dX12_goes_76 : decode cX12_goes 76 = .ok (.istore_n 1, 1) := by decide +kernel
theorem dX12_goes_77 : decode cX12_goes 77 = .ok (.aload_n 0, 1) := by decide +kernel
theorem dX12_goes_78 : decode cX12_goes 78 = .ok (.iload_n 1, 1) := by decide +kernel
theorem dX12_goes_79 : decode cX12_goes 79 = .ok (.putfield 157, 3) := by decide +kernel
theorem dX12_goes_82 : decode cX12_goes 82 = .ok (.aload_n 0, 1) := by decide +kernel
theorem dX12_goes_83 : decode cX12_goes 83 = .ok (.getfield 140, 3) := by decide +kernel
theorem dX12_goes_86 : decode cX12_goes 86 = .ok (.aload_n 0, 1) := by decide +kernel
theorem dX12_goes_87 : decode cX12_goes 87 = .ok (.getfield 137, 3) := by decide +kernel
theorem dX12_goes_90 : decode cX12_goes 90 = .ok (.if_icmp .lt 11, 3) := by decide +kernel
theorem dX12_goes_93 : decode cX12_goes 93 = .ok (.aload_n 0, 1) := by decide +kernel
theorem dX12_goes_94 : decode cX12_goes 94 = .ok (.iconst 0, 1) := by decide +kernel
theorem dX12_goes_95 : decode cX12_goes 95 = .ok (.putfield 160, 3) := by decide +kernel
theorem dX12_goes_98 : decode cX12_goes 98 = .ok (.goto 233, 3) := by decide +kernel
theorem dX12_goes_101 : decode cX12_goes 101 = .ok (.iload_n 1, 1) := by decide +kernel
theorem dX12_goes_102 : decode cX12_goes 102 = .ok (.invokestatic 163, 3) := by decide +kernel
theorem dX12_goes_105 : decode cX12_goes 105 = .ok (.ifCond .eq 75, 3) := by decide +kernel
theorem dX12_goes_108 : decode cX12_goes 108 = .ok (.aload_n 0, 1) := by decide +kernel
theorem dX12_goes_109 : decode cX12_goes 109 = .ok (.aload_n 0, 1) := by decide +kernel
theorem dX12_goes_110 : decode cX12_goes 110 = .ok (.getfield 140, 3) := by decide +kernel
theorem dX12_goes_113 : decode cX12_goes 113 = .ok (.invokevirtual 143, 3) := by decide +kernel
theorem dX12_goes_116 : decode cX12_goes 116 = .ok (.invokestatic 163, 3) := by decide +kernel
theorem dX12_goes_119 : decode cX12_goes 119 = .ok (.ifCond .eq 53, 3) := by decide +kernel
theorem dX12_goes_122 : decode cX12_goes 122 = .ok (.aload_n 0, 1) := by decide +kernel
theorem dX12_goes_123 : decode cX12_goes 123 = .ok (.getfield 140, 3) := by decide +kernel
theorem dX12_goes_126 : decode cX12_goes 126 = .ok (.aload_n 0, 1) := by decide +kernel
theorem dX12_goes_127 : decode cX12_goes 127 = .ok (.getfield 147, 3) := by decide +kernel
theorem dX12_goes_130 : decode cX12_goes 130 = .ok (.isub, 1) := by decide +kernel
theorem dX12_goes_131 : decode cX12_goes 131 = .ok (.bipush 8, 2) := by decide +kernel
theorem dX12_goes_133 : decode cX12_goes 133 = .ok (.if_icmp .ge 26, 3) := by decide +kernel
theorem dX12_goes_136 : decode cX12_goes 136 = .ok (.aload_n 0, 1) := by decide +kernel
theorem dX12_goes_137 : decode cX12_goes 137 = .ok (.aload_n 0, 1) := by decide +kernel
theorem dX12_goes_138 : decode cX12_goes 138 = .ok (.getfield 150, 3) := by decide +kernel
theorem dX12_goes_141 : decode cX12_goes 141 = .ok (.iconst 5, 1) := by decide +kernel
theorem dX12_goes_142 : decode cX12_goes 142 = .ok (.lshl, 1) := by decide +kernel
theorem dX12_goes_143 : decode cX12_goes 143 = .ok (.aload_n 0, 1) := by decide +kernel
theorem dX12_goes_144 : decode cX12_goes 144 = .ok (.aload_n 0, 1) := by decide +kernel
theorem dX12_goes_145 : decode cX12_goes 145 = .ok (.getfield 140, 3) := by decide +kernel
theorem dX12_goes_148 : decode cX12_goes 148 = .ok (.invokevirtual 143, 3) := by decide +kernel
theorem dX12_goes_151 : decode cX12_goes 151 = .ok (.bipush 96, 2) := by decide +kernel
theorem dX12_goes_153 : decode cX12_goes 153 = .ok (.isub, 1) := by decide +kernel
theorem dX12_goes_154 : decode cX12_goes 154 = .ok (.i2l, 1) := by decide +kernel
theorem dX12_goes_155 : decode cX12_goes 155 = .ok (.lor, 1) := by decide +kernel
theorem dX12_goes_156 : decode cX12_goes 156 = .ok (.putfield 150, 3) := by decide +kernel
theorem dX12_goes_159 : decode cX12_goes 159 = .ok (.aload_n 0, 1) := by decide +kernel
theorem dX12_goes_160 : decode cX12_goes 160 = .ok (.dup, 1) := by decide +kernel
theorem dX12_goes_161 : decode cX12_goes 161 = .ok (.getfield 140, 3) := by decide +kernel
theorem dX12_goes_164 : decode cX12_goes 164 = .ok (.iconst 1, 1) := by decide +kernel
theorem dX12_goes_165 : decode cX12_goes 165 = .ok (.iadd, 1) := by decide +kernel
theorem dX12_goes_166 : decode cX12_goes 166 = .ok (.putfield 140, 3) := by decide +kernel
theorem dX12_goes_169 : decode cX12_goes 169 = .ok (.goto (-61), 3) := by decide +kernel
theorem dX12_goes_172 : decode cX12_goes 172 = .ok (.aload_n 0, 1) := by decide +kernel
theorem dX12_goes_173 : decode cX12_goes 173 = .ok (.iconst 1, 1) := by decide +kernel
theorem dX12_goes_174 : decode cX12_goes 174 = .ok (.putfield 160, 3) := by decide +kernel
theorem dX12_goes_177 : decode cX12_goes 177 = .ok (.goto 154, 3) := by decide +kernel
theorem dX12_goes_180 : decode cX12_goes 180 = .ok (.iload_n 1, 1) := by decide +kernel
theorem dX12_goes_181 : decode cX12_goes 181 = .ok (.invokestatic 167, 3) := by decide +kernel
theorem dX12_goes_184 : decode cX12_goes 184 = .ok (.ifCond .eq 74, 3) := by decide +kernel
theorem dX12_goes_187 : decode cX12_goes 187 = .ok (.aload_n 0, 1) := by decide +kernel
theorem dX12_goes_188 : decode cX12_goes 188 = .ok (.aload_n 0, 1) := by decide +kernel
theorem dX12_goes_189 : decode cX12_goes 189 = .ok (.getfield 140, 3) := by decide +kernel
theorem dX12_goes_192 : decode cX12_goes 192 = .ok (.invokevirtual 143, 3) := by decide +kernel
theorem dX12_goes_195 : decode cX12_goes 195 = .ok (.invokestatic 167, 3) := by decide +kernel
theorem dX12_goes_198 : decode cX12_goes 198 = .ok (.ifCond .eq 52, 3) := by decide +kernel
theorem dX12_goes_201 : decode cX12_goes 201 = .ok (.aload_n 0, 1) := by decide +kernel
theorem dX12_goes_202 : decode cX12_goes 202 = .ok (.getfield 140, 3) := by decide +kernel
theorem dX12_goes_205 : decode cX12_goes 205 = .ok (.aload_n 0, 1) := by decide +kernel
theorem dX12_goes_206 : decode cX12_goes 206 = .ok (.getfield 147, 3) := by decide +kernel
theorem dX12_goes_209 : decode cX12_goes 209 = .ok (.isub, 1) := by decide +kernel
theorem dX12_goes_210 : decode cX12_goes 210 = .ok (.iconst 4, 1) := by decide +kernel
theorem dX12_goes_211 : decode cX12_goes 211 = .ok (.if_icmp .ge 26, 3) := by decide +kernel
theorem dX12_goes_214 : decode cX12_goes 214 = .ok (.aload_n 0, 1) := by decide +kernel
theorem dX12_goes_215 : decode cX12_goes 215 = .ok (.bipush 10, 2) := by decide +kernel
theorem dX12_goes_217 : decode cX12_goes 217 = .ok (.aload_n 0, 1) := by decide +kernel
theorem dX12_goes_218 : decode cX12_goes 218 = .ok (.getfield 154, 3) := by decide +kernel
theorem dX12_goes_221 : decode cX12_goes 221 = .ok (.imul, 1) := by decide +kernel
theorem dX12_goes_222 : decode cX12_goes 222 = .ok (.aload_n 0, 1) := by decide +kernel
theorem dX12_goes_223 : decode cX12_goes 223 = .ok (.aload_n 0, 1) := by decide +kernel
theorem dX12_goes_224 : decode cX12_goes 224 = .ok (.getfield 140, 3) := by decide +kernel
theorem dX12_goes_227 : decode cX12_goes 227 = .ok (.invokevirtual 143, 3) := by decide +kernel
theorem dX12_goes_230 : decode cX12_goes 230 = .ok (.iadd, 1) := by decide +kernel
theorem dX12_goes_231 : decode cX12_goes 231 = .ok (.bipush 48, 2) := by decide +kernel
theorem dX12_goes_233 : decode cX12_goes 233 = .ok (.isub, 1) := by decide +kernel
theorem dX12_goes_234 : decode cX12_goes 234 = .ok (.putfield 154, 3) := by decide +kernel
theorem dX12_goes_237 : decode cX12_goes 237 = .ok (.aload_n 0, 1) := by decide +kernel
theorem dX12_goes_238 : decode cX12_goes 238 = .ok (.dup, 1) := by decide +kernel
theorem dX12_goes_239 : decode cX12_goes 239 = .ok (.getfield 140, 3) := by decide +kernel
theorem dX12_goes_242 : decode cX12_goes 242 = .ok (.iconst 1, 1) := by decide +kernel
theorem dX12_goes_243 : decode cX12_goes 243 = .ok (.iadd, 1) := by decide +kernel
theorem dX12_goes_244 : decode cX12_goes 244 = .ok (.putfield 140, 3) := by decide +kernel
theorem dX12_goes_247 : decode cX12_goes 247 = .ok (.goto (-60), 3) := by decide +kernel
theorem dX12_goes_250 : decode cX12_goes 250 = .ok (.aload_n 0, 1) := by decide +kernel
theorem dX12_goes_251 : decode cX12_goes 251 = .ok (.iconst 2, 1) := by decide +kernel
theorem dX12_goes_252 : decode cX12_goes 252 = .ok (.putfield 160, 3) := by decide +kernel
theorem dX12_goes_255 : decode cX12_goes 255 = .ok (.goto 76, 3) := by decide +kernel
theorem dX12_goes_258 : decode cX12_goes 258 = .ok (.aload_n 0, 1) := by decide +kernel
theorem dX12_goes_259 : decode cX12_goes 259 = .ok (.dup, 1) := by decide +kernel
theorem dX12_goes_260 : decode cX12_goes 260 = .ok (.getfield 140, 3) := by decide +kernel
theorem dX12_goes_263 : decode cX12_goes 263 = .ok (.iconst 1, 1) := by decide +kernel
theorem dX12_goes_264 : decode cX12_goes 264 = .ok (.iadd, 1) := by decide +kernel
theorem dX12_goes_265 : decode cX12_goes 265 = .ok (.putfield 140, 3) := by decide +kernel
theorem dX12_goes_268 : decode cX12_goes 268 = .ok (.aload_n 0, 1) := by decide +kernel
theorem dX12_goes_269 : decode cX12_goes 269 = .ok (.iload_n 1, 1) := by decide +kernel
theorem dX12_goes_270 : decode cX12_goes 270 = .ok (.bipush 59, 2) := by decide +kernel
theorem dX12_goes_272 : decode cX12_goes 272 = .ok (.if_icmp .eq 51, 3) := by decide +kernel
theorem dX12_goes_275 : decode cX12_goes 275 = .ok (.iload_n 1, 1) := by decide +kernel
theorem dX12_goes_276 : decode cX12_goes 276 = .ok (.bipush 40, 2) := by decide +kernel
theorem dX12_goes_278 : decode cX12_goes 278 = .ok (.if_icmp .eq 45, 3) := by decide +kernel
theorem dX12_goes_281 : decode cX12_goes 281 = .ok (.iload_n 1, 1) := by decide +kernel
theorem dX12_goes_282 : decode cX12_goes 282 = .ok (.bipush 41, 2) := by decide +kernel
theorem dX12_goes_284 : decode cX12_goes 284 = .ok (.if_icmp .eq 39, 3) := by decide +kernel
theorem dX12_goes_287 : decode cX12_goes 287 = .ok (.iload_n 1, 1) := by decide +kernel
theorem dX12_goes_288 : decode cX12_goes 288 = .ok (.bipush 43, 2) := by decide +kernel
theorem dX12_goes_290 : decode cX12_goes 290 = .ok (.if_icmp .eq 33, 3) := by decide +kernel
theorem dX12_goes_293 : decode cX12_goes 293 = .ok (.iload_n 1, 1) := by decide +kernel
theorem dX12_goes_294 : decode cX12_goes 294 = .ok (.bipush 45, 2) := by decide +kernel
theorem dX12_goes_296 : decode cX12_goes 296 = .ok (.if_icmp .eq 27, 3) := by decide +kernel
theorem dX12_goes_299 : decode cX12_goes 299 = .ok (.iload_n 1, 1) := by decide +kernel
theorem dX12_goes_300 : decode cX12_goes 300 = .ok (.bipush 42, 2) := by decide +kernel
theorem dX12_goes_302 : decode cX12_goes 302 = .ok (.if_icmp .eq 21, 3) := by decide +kernel
theorem dX12_goes_305 : decode cX12_goes 305 = .ok (.iload_n 1, 1) := by decide +kernel
theorem dX12_goes_306 : decode cX12_goes 306 = .ok (.bipush 47, 2) := by decide +kernel
theorem dX12_goes_308 : decode cX12_goes 308 = .ok (.if_icmp .eq 15, 3) := by decide +kernel
theorem dX12_goes_311 : decode cX12_goes 311 = .ok (.iload_n 1, 1) := by decide +kernel
theorem dX12_goes_312 : decode cX12_goes 312 = .ok (.bipush 60, 2) := by decide +kernel
theorem dX12_goes_314 : decode cX12_goes 314 = .ok (.if_icmp .eq 9, 3) := by decide +kernel
theorem dX12_goes_317 : decode cX12_goes 317 = .ok (.iload_n 1, 1) := by decide +kernel
theorem dX12_goes_318 : decode cX12_goes 318 = .ok (.bipush 61, 2) := by decide +kernel
theorem dX12_goes_320 : decode cX12_goes 320 = .ok (.if_icmp .ne 7, 3) := by decide +kernel
theorem dX12_goes_323 : decode cX12_goes 323 = .ok (.iconst 3, 1) := by decide +kernel
theorem dX12_goes_324 : decode cX12_goes 324 = .ok (.goto 4, 3) := by decide +kernel
theorem dX12_goes_327 : decode cX12_goes 327 = .ok (.iconst 4, 1) := by decide +kernel
theorem dX12_goes_328 : decode cX12_goes 328 = .ok (.putfield 160, 3) := by decide +kernel
theorem dX12_goes_331 : decode cX12_goes 331 = .ok (.aload_n 0, 1) := by decide +kernel
theorem dX12_goes_332 : decode cX12_goes 332 = .ok (.aload_n 0, 1) := by decide +kernel
theorem dX12_goes_333 : decode cX12_goes 333 = .ok (.getfield 140, 3) := by decide +kernel
theorem dX12_goes_336 : decode cX12_goes 336 = .ok (.aload_n 0, 1) := by decide +kernel
theorem dX12_goes_337 : decode cX12_goes 337 = .ok (.getfield 147, 3) := by decide +kernel
theorem dX12_goes_340 : decode cX12_goes 340 = .ok (.isub, 1) := by decide +kernel
theorem dX12_goes_341 : decode cX12_goes 341 = .ok (.putfield 170, 3) := by decide +kernel
theorem dX12_goes_344 : decode cX12_goes 344 = .ok (.return_, 1) := by decide +kernel
theorem dX12_spelled_0 : decode cX12_spelled 0 = .ok (.iload_n 0, 1) := by decide +kernel
theorem dX12_spelled_1 : decode cX12_spelled 1 = .ok (.i2l, 1) := by decide +kernel
theorem dX12_spelled_2 : decode cX12_spelled 2 = .ok (.ldc2_w 173, 3) := by decide +kernel
theorem dX12_spelled_5 : decode cX12_spelled 5 = .ok (.lsub, 1) := by decide +kernel
theorem dX12_spelled_6 : decode cX12_spelled 6 = .ok (.iconst 5, 1) := by decide +kernel
theorem dX12_spelled_7 : decode cX12_spelled 7 = .ok (.lshl, 1) := by decide +kernel
theorem dX12_spelled_8 : decode cX12_spelled 8 = .ok (.iload_n 1, 1) := by decide +kernel
theorem dX12_spelled_9 : decode cX12_spelled 9 = .ok (.bipush 96, 2) := by decide +kernel
theorem dX12_spelled_11 : decode cX12_spelled 11 = .ok (.isub, 1) := by decide +kernel
theorem dX12_spelled_12 : decode cX12_spelled 12 = .ok (.i2l, 1) := by decide +kernel
theorem dX12_spelled_13 : decode cX12_spelled 13 = .ok (.lor, 1) := by decide +kernel
theorem dX12_spelled_14 : decode cX12_spelled 14 = .ok (.lstore 8, 2) := by decide +kernel
theorem dX12_spelled_16 : decode cX12_spelled 16 = .ok (.iload_n 2, 1) := by decide +kernel
theorem dX12_spelled_17 : decode cX12_spelled 17 = .ok (.ifCond .eq 15, 3) := by decide +kernel
theorem dX12_spelled_20 : decode cX12_spelled 20 = .ok (.lload 8, 2) := by decide +kernel
theorem dX12_spelled_22 : decode cX12_spelled 22 = .ok (.iconst 5, 1) := by decide +kernel
theorem dX12_spelled_23 : decode cX12_spelled 23 = .ok (.lshl, 1) := by decide +kernel
theorem dX12_spelled_24 : decode cX12_spelled 24 = .ok (.iload_n 2, 1) := by decide +kernel
theorem dX12_spelled_25 : decode cX12_spelled 25 = .ok (.bipush 96, 2) := by decide +kernel
theorem dX12_spelled_27 : decode cX12_spelled 27 = .ok (.isub, 1) := by decide +kernel
theorem dX12_spelled_28 : decode cX12_spelled 28 = .ok (.i2l, 1) := by decide +kernel
theorem dX12_spelled_29 : decode cX12_spelled 29 = .ok (.lor, 1) := by decide +kernel
theorem dX12_spelled_30 : decode cX12_spelled 30 = .ok (.lstore 8, 2) := by decide +kernel
theorem dX12_spelled_32 : decode cX12_spelled 32 = .ok (.iload_n 3, 1) := by decide +kernel
theorem dX12_spelled_33 : decode cX12_spelled 33 = .ok (.ifCond .eq 15, 3) := by decide +kernel
theorem dX12_spelled_36 : decode cX12_spelled 36 = .ok (.lload 8, 2) := by decide +kernel
theorem dX12_spelled_38 : decode cX12_spelled 38 = .ok (.iconst 5, 1) := by decide +kernel
theorem dX12_spelled_39 : decode cX12_spelled 39 = .ok (.lshl, 1) := by decide +kernel
theorem dX12_spelled_40 : decode cX12_spelled 40 = .ok (.iload_n 3, 1) := by decide +kernel
theorem dX12_spelled_41 : decode cX12_spelled 41 = .ok (.bipush 96, 2) := by decide +kernel
theorem dX12_spelled_43 : decode cX12_spelled 43 = .ok (.isub, 1) := by decide +kernel
theorem dX12_spelled_44 : decode cX12_spelled 44 = .ok (.i2l, 1) := by decide +kernel
theorem dX12_spelled_45 : decode cX12_spelled 45 = .ok (.lor, 1) := by decide +kernel
theorem dX12_spelled_46 : decode cX12_spelled 46 = .ok (.lstore 8, 2) := by decide +kernel
theorem dX12_spelled_48 : decode cX12_spelled 48 = .ok (.iload 4, 2) := by decide +kernel
theorem dX12_spelled_50 : decode cX12_spelled 50 = .ok (.ifCond .eq 16, 3) := by decide +kernel
theorem dX12_spelled_53 : decode cX12_spelled 53 = .ok (.lload 8, 2) := by decide +kernel
theorem dX12_spelled_55 : decode cX12_spelled 55 = .ok (.iconst 5, 1) := by decide +kernel
theorem dX12_spelled_56 : decode cX12_spelled 56 = .ok (.lshl, 1) := by decide +kernel
theorem dX12_spelled_57 : decode cX12_spelled 57 = .ok (.iload 4, 2) := by decide +kernel
theorem dX12_spelled_59 : decode cX12_spelled 59 = .ok (.bipush 96, 2) := by decide +kernel
theorem dX12_spelled_61 : decode cX12_spelled 61 = .ok (.isub, 1) := by decide +kernel
theorem dX12_spelled_62 : decode cX12_spelled 62 = .ok (.i2l, 1) := by decide +kernel
theorem dX12_spelled_63 : decode cX12_spelled 63 = .ok (.lor, 1) := by decide +kernel
theorem dX12_spelled_64 : decode cX12_spelled 64 = .ok (.lstore 8, 2) := by decide +kernel
theorem dX12_spelled_66 : decode cX12_spelled 66 = .ok (.iload 5, 2) := by decide +kernel
theorem dX12_spelled_68 : decode cX12_spelled 68 = .ok (.ifCond .eq 16, 3) := by decide +kernel
theorem dX12_spelled_71 : decode cX12_spelled 71 = .ok (.lload 8, 2) := by decide +kernel
theorem dX12_spelled_73 : decode cX12_spelled 73 = .ok (.iconst 5, 1) := by decide +kernel
theorem dX12_spelled_74 : decode cX12_spelled 74 = .ok (.lshl, 1) := by decide +kernel
theorem dX12_spelled_75 : decode cX12_spelled 75 = .ok (.iload 5, 2) := by decide +kernel
theorem dX12_spelled_77 : decode cX12_spelled 77 = .ok (.bipush 96, 2) := by decide +kernel
theorem dX12_spelled_79 : decode cX12_spelled 79 = .ok (.isub, 1) := by decide +kernel
theorem dX12_spelled_80 : decode cX12_spelled 80 = .ok (.i2l, 1) := by decide +kernel
theorem dX12_spelled_81 : decode cX12_spelled 81 = .ok (.lor, 1) := by decide +kernel
theorem dX12_spelled_82 : decode cX12_spelled 82 = .ok (.lstore 8, 2) := by decide +kernel
theorem dX12_spelled_84 : decode cX12_spelled 84 = .ok (.iload 6, 2) := by decide +kernel
theorem dX12_spelled_86 : decode cX12_spelled 86 = .ok (.ifCond .eq 16, 3) := by decide +kernel
theorem dX12_spelled_89 : decode cX12_spelled 89 = .ok (.lload 8, 2) := by decide +kernel
theorem dX12_spelled_91 : decode cX12_spelled 91 = .ok (.iconst 5, 1) := by decide +kernel
theorem dX12_spelled_92 : decode cX12_spelled 92 = .ok (.lshl, 1) := by decide +kernel
theorem dX12_spelled_93 : decode cX12_spelled 93 = .ok (.iload 6, 2) := by decide +kernel
theorem dX12_spelled_95 : decode cX12_spelled 95 = .ok (.bipush 96, 2) := by decide +kernel
theorem dX12_spelled_97 : decode cX12_spelled 97 = .ok (.isub, 1) := by decide +kernel
theorem dX12_spelled_98 : decode cX12_spelled 98 = .ok (.i2l, 1) := by decide +kernel
theorem dX12_spelled_99 : decode cX12_spelled 99 = .ok (.lor, 1) := by decide +kernel
theorem dX12_spelled_100 : decode cX12_spelled 100 = .ok (.lstore 8, 2) := by decide +kernel
theorem dX12_spelled_102 : decode cX12_spelled 102 = .ok (.iload 7, 2) := by decide +kernel
theorem dX12_spelled_104 : decode cX12_spelled 104 = .ok (.ifCond .eq 16, 3) := by decide +kernel
theorem dX12_spelled_107 : decode cX12_spelled 107 = .ok (.lload 8, 2) := by decide +kernel
theorem dX12_spelled_109 : decode cX12_spelled 109 = .ok (.iconst 5, 1) := by decide +kernel
theorem dX12_spelled_110 : decode cX12_spelled 110 = .ok (.lshl, 1) := by decide +kernel
theorem dX12_spelled_111 : decode cX12_spelled 111 = .ok (.iload 7, 2) := by decide +kernel
theorem dX12_spelled_113 : decode cX12_spelled 113 = .ok (.bipush 96, 2) := by decide +kernel
theorem dX12_spelled_115 : decode cX12_spelled 115 = .ok (.isub, 1) := by decide +kernel
theorem dX12_spelled_116 : decode cX12_spelled 116 = .ok (.i2l, 1) := by decide +kernel
theorem dX12_spelled_117 : decode cX12_spelled 117 = .ok (.lor, 1) := by decide +kernel
theorem dX12_spelled_118 : decode cX12_spelled 118 = .ok (.lstore 8, 2) := by decide +kernel
theorem dX12_spelled_120 : decode cX12_spelled 120 = .ok (.lload 8, 2) := by decide +kernel
theorem dX12_spelled_122 : decode cX12_spelled 122 = .ok (.lreturn, 1) := by decide +kernel
theorem dX12_letters_0 : decode cX12_letters 0 = .ok (.iload_n 0, 1) := by decide +kernel
theorem dX12_letters_1 : decode cX12_letters 1 = .ok (.tableswitch 709 0 33 #[151, 167, 183, 201, 217, 237, 256, 272, 288, 304, 321, 337, 354, 369, 386, 402, 419, 436, 452, 468, 484, 500, 516, 533, 549, 566, 583, 598, 615, 631, 647, 663, 680, 695], 151) := by decide +kernel
theorem dX12_letters_152 : decode cX12_letters 152 = .ok (.bipush 115, 2) := by decide +kernel
theorem dX12_letters_154 : decode cX12_letters 154 = .ok (.bipush 105, 2) := by decide +kernel
theorem dX12_letters_156 : decode cX12_letters 156 = .ok (.bipush 122, 2) := by decide +kernel
theorem dX12_letters_158 : decode cX12_letters 158 = .ok (.bipush 101, 2) := by decide +kernel
theorem dX12_letters_160 : decode cX12_letters 160 = .ok (.iconst 0, 1) := by decide +kernel
theorem dX12_letters_161 : decode cX12_letters 161 = .ok (.iconst 0, 1) := by decide +kernel
theorem dX12_letters_162 : decode cX12_letters 162 = .ok (.iconst 0, 1) := by decide +kernel
theorem dX12_letters_163 : decode cX12_letters 163 = .ok (.iconst 0, 1) := by decide +kernel
theorem dX12_letters_164 : decode cX12_letters 164 = .ok (.invokestatic 175, 3) := by decide +kernel
theorem dX12_letters_167 : decode cX12_letters 167 = .ok (.lreturn, 1) := by decide +kernel
theorem dX12_letters_168 : decode cX12_letters 168 = .ok (.bipush 115, 2) := by decide +kernel
theorem dX12_letters_170 : decode cX12_letters 170 = .ok (.bipush 105, 2) := by decide +kernel
theorem dX12_letters_172 : decode cX12_letters 172 = .ok (.bipush 100, 2) := by decide +kernel
theorem dX12_letters_174 : decode cX12_letters 174 = .ok (.bipush 101, 2) := by decide +kernel
theorem dX12_letters_176 : decode cX12_letters 176 = .ok (.iconst 0, 1) := by decide +kernel
theorem dX12_letters_177 : decode cX12_letters 177 = .ok (.iconst 0, 1) := by decide +kernel
theorem dX12_letters_178 : decode cX12_letters 178 = .ok (.iconst 0, 1) := by decide +kernel
theorem dX12_letters_179 : decode cX12_letters 179 = .ok (.iconst 0, 1) := by decide +kernel
theorem dX12_letters_180 : decode cX12_letters 180 = .ok (.invokestatic 175, 3) := by decide +kernel
theorem dX12_letters_183 : decode cX12_letters 183 = .ok (.lreturn, 1) := by decide +kernel
theorem dX12_letters_184 : decode cX12_letters 184 = .ok (.bipush 109, 2) := by decide +kernel
theorem dX12_letters_186 : decode cX12_letters 186 = .ok (.bipush 105, 2) := by decide +kernel
theorem dX12_letters_188 : decode cX12_letters 188 = .ok (.bipush 110, 2) := by decide +kernel
theorem dX12_letters_190 : decode cX12_letters 190 = .ok (.bipush 117, 2) := by decide +kernel
theorem dX12_letters_192 : decode cX12_letters 192 = .ok (.bipush 116, 2) := by decide +kernel
theorem dX12_letters_194 : decode cX12_letters 194 = .ok (.bipush 101, 2) := by decide +kernel
theorem dX12_letters_196 : decode cX12_letters 196 = .ok (.iconst 0, 1) := by decide +kernel
theorem dX12_letters_197 : decode cX12_letters 197 = .ok (.iconst 0, 1) := by decide +kernel
theorem dX12_letters_198 : decode cX12_letters 198 = .ok (.invokestatic 175, 3) := by decide +kernel
theorem dX12_letters_201 : decode cX12_letters 201 = .ok (.lreturn, 1) := by decide +kernel
theorem dX12_letters_202 : decode cX12_letters 202 = .ok (.bipush 108, 2) := by decide +kernel
theorem dX12_letters_204 : decode cX12_letters 204 = .ok (.bipush 111, 2) := by decide +kernel
theorem dX12_letters_206 : decode cX12_letters 206 = .ok (.bipush 97, 2) := by decide +kernel
theorem dX12_letters_208 : decode cX12_letters 208 = .ok (.bipush 100, 2) := by decide +kernel
theorem dX12_letters_210 : decode cX12_letters 210 = .ok (.iconst 0, 1) := by decide +kernel
theorem dX12_letters_211 : decode cX12_letters 211 = .ok (.iconst 0, 1) := by decide +kernel
theorem dX12_letters_212 : decode cX12_letters 212 = .ok (.iconst 0, 1) := by decide +kernel
theorem dX12_letters_213 : decode cX12_letters 213 = .ok (.iconst 0, 1) := by decide +kernel
theorem dX12_letters_214 : decode cX12_letters 214 = .ok (.invokestatic 175, 3) := by decide +kernel
theorem dX12_letters_217 : decode cX12_letters 217 = .ok (.lreturn, 1) := by decide +kernel
theorem dX12_letters_218 : decode cX12_letters 218 = .ok (.bipush 112, 2) := by decide +kernel
theorem dX12_letters_220 : decode cX12_letters 220 = .ok (.bipush 114, 2) := by decide +kernel
theorem dX12_letters_222 : decode cX12_letters 222 = .ok (.bipush 101, 2) := by decide +kernel
theorem dX12_letters_224 : decode cX12_letters 224 = .ok (.bipush 115, 2) := by decide +kernel
theorem dX12_letters_226 : decode cX12_letters 226 = .ok (.bipush 115, 2) := by decide +kernel
theorem dX12_letters_228 : decode cX12_letters 228 = .ok (.bipush 117, 2) := by decide +kernel
theorem dX12_letters_230 : decode cX12_letters 230 = .ok (.bipush 114, 2) := by decide +kernel
theorem dX12_letters_232 : decode cX12_letters 232 = .ok (.bipush 101, 2) := by decide +kernel
theorem dX12_letters_234 : decode cX12_letters 234 = .ok (.invokestatic 175, 3) := by decide +kernel
theorem dX12_letters_237 : decode cX12_letters 237 = .ok (.lreturn, 1) := by decide +kernel
theorem dX12_letters_238 : decode cX12_letters 238 = .ok (.bipush 109, 2) := by decide +kernel
theorem dX12_letters_240 : decode cX12_letters 240 = .ok (.bipush 105, 2) := by decide +kernel
theorem dX12_letters_242 : decode cX12_letters 242 = .ok (.bipush 110, 2) := by decide +kernel
theorem dX12_letters_244 : decode cX12_letters 244 = .ok (.bipush 117, 2) := by decide +kernel
theorem dX12_letters_246 : decode cX12_letters 246 = .ok (.bipush 116, 2) := by decide +kernel
theorem dX12_letters_248 : decode cX12_letters 248 = .ok (.bipush 101, 2) := by decide +kernel
theorem dX12_letters_250 : decode cX12_letters 250 = .ok (.bipush 115, 2) := by decide +kernel
theorem dX12_letters_252 : decode cX12_letters 252 = .ok (.iconst 0, 1) := by decide +kernel
theorem dX12_letters_253 : decode cX12_letters 253 = .ok (.invokestatic 175, 3) := by decide +kernel
theorem dX12_letters_256 : decode cX12_letters 256 = .ok (.lreturn, 1) := by decide +kernel
theorem dX12_letters_257 : decode cX12_letters 257 = .ok (.bipush 99, 2) := by decide +kernel
theorem dX12_letters_259 : decode cX12_letters 259 = .ok (.bipush 111, 2) := by decide +kernel
theorem dX12_letters_261 : decode cX12_letters 261 = .ok (.bipush 108, 2) := by decide +kernel
theorem dX12_letters_263 : decode cX12_letters 263 = .ok (.bipush 100, 2) := by decide +kernel
theorem dX12_letters_265 : decode cX12_letters 265 = .ok (.iconst 0, 1) := by decide +kernel
theorem dX12_letters_266 : decode cX12_letters 266 = .ok (.iconst 0, 1) := by decide +kernel
theorem dX12_letters_267 : decode cX12_letters 267 = .ok (.iconst 0, 1) := by decide +kernel
theorem dX12_letters_268 : decode cX12_letters 268 = .ok (.iconst 0, 1) := by decide +kernel
theorem dX12_letters_269 : decode cX12_letters 269 = .ok (.invokestatic 175, 3) := by decide +kernel
theorem dX12_letters_272 : decode cX12_letters 272 = .ok (.lreturn, 1) := by decide +kernel
theorem dX12_letters_273 : decode cX12_letters 273 = .ok (.bipush 100, 2) := by decide +kernel
theorem dX12_letters_275 : decode cX12_letters 275 = .ok (.bipush 97, 2) := by decide +kernel
theorem dX12_letters_277 : decode cX12_letters 277 = .ok (.bipush 109, 2) := by decide +kernel
theorem dX12_letters_279 : decode cX12_letters 279 = .ok (.bipush 112, 2) := by decide +kernel
theorem dX12_letters_281 : decode cX12_letters 281 = .ok (.iconst 0, 1) := by decide +kernel
theorem dX12_letters_282 : decode cX12_letters 282 = .ok (.iconst 0, 1) := by decide +kernel
theorem dX12_letters_283 : decode cX12_letters 283 = .ok (.iconst 0, 1) := by decide +kernel
theorem dX12_letters_284 : decode cX12_letters 284 = .ok (.iconst 0, 1) := by decide +kernel
theorem dX12_letters_285 : decode cX12_letters 285 = .ok (.invokestatic 175, 3) := by decide +kernel
theorem dX12_letters_288 : decode cX12_letters 288 = .ok (.lreturn, 1) := by decide +kernel
theorem dX12_letters_289 : decode cX12_letters 289 = .ok (.bipush 110, 2) := by decide +kernel
theorem dX12_letters_291 : decode cX12_letters 291 = .ok (.bipush 101, 2) := by decide +kernel
theorem dX12_letters_293 : decode cX12_letters 293 = .ok (.bipush 97, 2) := by decide +kernel
theorem dX12_letters_295 : decode cX12_letters 295 = .ok (.bipush 114, 2) := by decide +kernel
theorem dX12_letters_297 : decode cX12_letters 297 = .ok (.iconst 0, 1) := by decide +kernel
theorem dX12_letters_298 : decode cX12_letters 298 = .ok (.iconst 0, 1) := by decide +kernel
theorem dX12_letters_299 : decode cX12_letters 299 = .ok (.iconst 0, 1) := by decide +kernel
theorem dX12_letters_300 : decode cX12_letters 300 = .ok (.iconst 0, 1) := by decide +kernel
theorem dX12_letters_301 : decode cX12_letters 301 = .ok (.invokestatic 175, 3) := by decide +kernel
theorem dX12_letters_304 : decode cX12_letters 304 = .ok (.lreturn, 1) := by decide +kernel
theorem dX12_letters_305 : decode cX12_letters 305 = .ok (.bipush 111, 2) := by decide +kernel
theorem dX12_letters_307 : decode cX12_letters 307 = .ok (.bipush 117, 2) := by decide +kernel
theorem dX12_letters_309 : decode cX12_letters 309 = .ok (.bipush 116, 2) := by decide +kernel
theorem dX12_letters_311 : decode cX12_letters 311 = .ok (.bipush 101, 2) := by decide +kernel
theorem dX12_letters_313 : decode cX12_letters 313 = .ok (.bipush 114, 2) := by decide +kernel
theorem dX12_letters_315 : decode cX12_letters 315 = .ok (.iconst 0, 1) := by decide +kernel
theorem dX12_letters_316 : decode cX12_letters 316 = .ok (.iconst 0, 1) := by decide +kernel
theorem dX12_letters_317 : decode cX12_letters 317 = .ok (.iconst 0, 1) := by decide +kernel
theorem dX12_letters_318 : decode cX12_letters 318 = .ok (.invokestatic 175, 3) := by decide +kernel
theorem dX12_letters_321 : decode cX12_letters 321 = .ok (.lreturn, 1) := by decide +kernel
theorem dX12_letters_322 : decode cX12_letters 322 = .ok (.bipush 108, 2) := by decide +kernel
theorem dX12_letters_324 : decode cX12_letters 324 = .ok (.bipush 101, 2) := by decide +kernel
theorem dX12_letters_326 : decode cX12_letters 326 = .ok (.bipush 102, 2) := by decide +kernel
theorem dX12_letters_328 : decode cX12_letters 328 = .ok (.bipush 116, 2) := by decide +kernel
theorem dX12_letters_330 : decode cX12_letters 330 = .ok (.iconst 0, 1) := by decide +kernel
theorem dX12_letters_331 : decode cX12_letters 331 = .ok (.iconst 0, 1) := by decide +kernel
theorem dX12_letters_332 : decode cX12_letters 332 = .ok (.iconst 0, 1) := by decide +kernel
theorem dX12_letters_333 : decode cX12_letters 333 = .ok (.iconst 0, 1) := by decide +kernel
theorem dX12_letters_334 : decode cX12_letters 334 = .ok (.invokestatic 175, 3) := by decide +kernel
theorem dX12_letters_337 : decode cX12_letters 337 = .ok (.lreturn, 1) := by decide +kernel
theorem dX12_letters_338 : decode cX12_letters 338 = .ok (.bipush 114, 2) := by decide +kernel
theorem dX12_letters_340 : decode cX12_letters 340 = .ok (.bipush 105, 2) := by decide +kernel
theorem dX12_letters_342 : decode cX12_letters 342 = .ok (.bipush 103, 2) := by decide +kernel
theorem dX12_letters_344 : decode cX12_letters 344 = .ok (.bipush 104, 2) := by decide +kernel
theorem dX12_letters_346 : decode cX12_letters 346 = .ok (.bipush 116, 2) := by decide +kernel
theorem dX12_letters_348 : decode cX12_letters 348 = .ok (.iconst 0, 1) := by decide +kernel
theorem dX12_letters_349 : decode cX12_letters 349 = .ok (.iconst 0, 1) := by decide +kernel
theorem dX12_letters_350 : decode cX12_letters 350 = .ok (.iconst 0, 1) := by decide +kernel
theorem dX12_letters_351 : decode cX12_letters 351 = .ok (.invokestatic 175, 3) := by decide +kernel
theorem dX12_letters_354 : decode cX12_letters 354 = .ok (.lreturn, 1) := by decide +kernel
theorem dX12_letters_355 : decode cX12_letters 355 = .ok (.bipush 114, 2) := by decide +kernel
theorem dX12_letters_357 : decode cX12_letters 357 = .ok (.bipush 105, 2) := by decide +kernel
theorem dX12_letters_359 : decode cX12_letters 359 = .ok (.bipush 109, 2) := by decide +kernel
theorem dX12_letters_361 : decode cX12_letters 361 = .ok (.iconst 0, 1) := by decide +kernel
theorem dX12_letters_362 : decode cX12_letters 362 = .ok (.iconst 0, 1) := by decide +kernel
theorem dX12_letters_363 : decode cX12_letters 363 = .ok (.iconst 0, 1) := by decide +kernel
theorem dX12_letters_364 : decode cX12_letters 364 = .ok (.iconst 0, 1) := by decide +kernel
theorem dX12_letters_365 : decode cX12_letters 365 = .ok (.iconst 0, 1) := by decide +kernel
theorem dX12_letters_366 : decode cX12_letters 366 = .ok (.invokestatic 175, 3) := by decide +kernel
theorem dX12_letters_369 : decode cX12_letters 369 = .ok (.lreturn, 1) := by decide +kernel
theorem dX12_letters_370 : decode cX12_letters 370 = .ok (.bipush 116, 2) := by decide +kernel
theorem dX12_letters_372 : decode cX12_letters 372 = .ok (.bipush 104, 2) := by decide +kernel
theorem dX12_letters_374 : decode cX12_letters 374 = .ok (.bipush 111, 2) := by decide +kernel
theorem dX12_letters_376 : decode cX12_letters 376 = .ok (.bipush 114, 2) := by decide +kernel
theorem dX12_letters_378 : decode cX12_letters 378 = .ok (.bipush 110, 2) := by decide +kernel
theorem dX12_letters_380 : decode cX12_letters 380 = .ok (.iconst 0, 1) := by decide +kernel
theorem dX12_letters_381 : decode cX12_letters 381 = .ok (.iconst 0, 1) := by decide +kernel
theorem dX12_letters_382 : decode cX12_letters 382 = .ok (.iconst 0, 1) := by decide +kernel
theorem dX12_letters_383 : decode cX12_letters 383 = .ok (.invokestatic 175, 3) := by decide +kernel
theorem dX12_letters_386 : decode cX12_letters 386 = .ok (.lreturn, 1) := by decide +kernel
theorem dX12_letters_387 : decode cX12_letters 387 = .ok (.bipush 107, 2) := by decide +kernel
theorem dX12_letters_389 : decode cX12_letters 389 = .ok (.bipush 101, 2) := by decide +kernel
theorem dX12_letters_391 : decode cX12_letters 391 = .ok (.bipush 114, 2) := by decide +kernel
theorem dX12_letters_393 : decode cX12_letters 393 = .ok (.bipush 98, 2) := by decide +kernel
theorem dX12_letters_395 : decode cX12_letters 395 = .ok (.iconst 0, 1) := by decide +kernel
theorem dX12_letters_396 : decode cX12_letters 396 = .ok (.iconst 0, 1) := by decide +kernel
theorem dX12_letters_397 : decode cX12_letters 397 = .ok (.iconst 0, 1) := by decide +kernel
theorem dX12_letters_398 : decode cX12_letters 398 = .ok (.iconst 0, 1) := by decide +kernel
theorem dX12_letters_399 : decode cX12_letters 399 = .ok (.invokestatic 175, 3) := by decide +kernel
theorem dX12_letters_402 : decode cX12_letters 402 = .ok (.lreturn, 1) := by decide +kernel
theorem dX12_letters_403 : decode cX12_letters 403 = .ok (.bipush 115, 2) := by decide +kernel
theorem dX12_letters_405 : decode cX12_letters 405 = .ok (.bipush 112, 2) := by decide +kernel
theorem dX12_letters_407 : decode cX12_letters 407 = .ok (.bipush 111, 2) := by decide +kernel
theorem dX12_letters_409 : decode cX12_letters 409 = .ok (.bipush 107, 2) := by decide +kernel
theorem dX12_letters_411 : decode cX12_letters 411 = .ok (.bipush 101, 2) := by decide +kernel
theorem dX12_letters_413 : decode cX12_letters 413 = .ok (.iconst 0, 1) := by decide +kernel
theorem dX12_letters_414 : decode cX12_letters 414 = .ok (.iconst 0, 1) := by decide +kernel
theorem dX12_letters_415 : decode cX12_letters 415 = .ok (.iconst 0, 1) := by decide +kernel
theorem dX12_letters_416 : decode cX12_letters 416 = .ok (.invokestatic 175, 3) := by decide +kernel
theorem dX12_letters_419 : decode cX12_letters 419 = .ok (.lreturn, 1) := by decide +kernel
theorem dX12_letters_420 : decode cX12_letters 420 = .ok (.bipush 118, 2) := by decide +kernel
theorem dX12_letters_422 : decode cX12_letters 422 = .ok (.bipush 97, 2) := by decide +kernel
theorem dX12_letters_424 : decode cX12_letters 424 = .ok (.bipush 108, 2) := by decide +kernel
theorem dX12_letters_426 : decode cX12_letters 426 = .ok (.bipush 118, 2) := by decide +kernel
theorem dX12_letters_428 : decode cX12_letters 428 = .ok (.bipush 101, 2) := by decide +kernel
theorem dX12_letters_430 : decode cX12_letters 430 = .ok (.iconst 0, 1) := by decide +kernel
theorem dX12_letters_431 : decode cX12_letters 431 = .ok (.iconst 0, 1) := by decide +kernel
theorem dX12_letters_432 : decode cX12_letters 432 = .ok (.iconst 0, 1) := by decide +kernel
theorem dX12_letters_433 : decode cX12_letters 433 = .ok (.invokestatic 175, 3) := by decide +kernel
theorem dX12_letters_436 : decode cX12_letters 436 = .ok (.lreturn, 1) := by decide +kernel
theorem dX12_letters_437 : decode cX12_letters 437 = .ok (.bipush 116, 2) := by decide +kernel
theorem dX12_letters_439 : decode cX12_letters 439 = .ok (.bipush 117, 2) := by decide +kernel
theorem dX12_letters_441 : decode cX12_letters 441 = .ok (.bipush 98, 2) := by decide +kernel
theorem dX12_letters_443 : decode cX12_letters 443 = .ok (.bipush 101, 2) := by decide +kernel
theorem dX12_letters_445 : decode cX12_letters 445 = .ok (.iconst 0, 1) := by decide +kernel
theorem dX12_letters_446 : decode cX12_letters 446 = .ok (.iconst 0, 1) := by decide +kernel
theorem dX12_letters_447 : decode cX12_letters 447 = .ok (.iconst 0, 1) := by decide +kernel
theorem dX12_letters_448 : decode cX12_letters 448 = .ok (.iconst 0, 1) := by decide +kernel
theorem dX12_letters_449 : decode cX12_letters 449 = .ok (.invokestatic 175, 3) := by decide +kernel
theorem dX12_letters_452 : decode cX12_letters 452 = .ok (.lreturn, 1) := by decide +kernel
theorem dX12_letters_453 : decode cX12_letters 453 = .ok (.bipush 104, 2) := by decide +kernel
theorem dX12_letters_455 : decode cX12_letters 455 = .ok (.bipush 111, 2) := by decide +kernel
theorem dX12_letters_457 : decode cX12_letters 457 = .ok (.bipush 108, 2) := by decide +kernel
theorem dX12_letters_459 : decode cX12_letters 459 = .ok (.bipush 101, 2) := by decide +kernel
theorem dX12_letters_461 : decode cX12_letters 461 = .ok (.iconst 0, 1) := by decide +kernel
theorem dX12_letters_462 : decode cX12_letters 462 = .ok (.iconst 0, 1) := by decide +kernel
theorem dX12_letters_463 : decode cX12_letters 463 = .ok (.iconst 0, 1) := by decide +kernel
theorem dX12_letters_464 : decode cX12_letters 464 = .ok (.iconst 0, 1) := by decide +kernel
theorem dX12_letters_465 : decode cX12_letters 465 = .ok (.invokestatic 175, 3) := by decide +kernel
theorem dX12_letters_468 : decode cX12_letters 468 = .ok (.lreturn, 1) := by decide +kernel
theorem dX12_letters_469 : decode cX12_letters 469 = .ok (.bipush 115, 2) := by decide +kernel
theorem dX12_letters_471 : decode cX12_letters 471 = .ok (.bipush 108, 2) := by decide +kernel
theorem dX12_letters_473 : decode cX12_letters 473 = .ok (.bipush 111, 2) := by decide +kernel
theorem dX12_letters_475 : decode cX12_letters 475 = .ok (.bipush 119, 2) := by decide +kernel
theorem dX12_letters_477 : decode cX12_letters 477 = .ok (.iconst 0, 1) := by decide +kernel
theorem dX12_letters_478 : decode cX12_letters 478 = .ok (.iconst 0, 1) := by decide +kernel
theorem dX12_letters_479 : decode cX12_letters 479 = .ok (.iconst 0, 1) := by decide +kernel
theorem dX12_letters_480 : decode cX12_letters 480 = .ok (.iconst 0, 1) := by decide +kernel
theorem dX12_letters_481 : decode cX12_letters 481 = .ok (.invokestatic 175, 3) := by decide +kernel
theorem dX12_letters_484 : decode cX12_letters 484 = .ok (.lreturn, 1) := by decide +kernel
theorem dX12_letters_485 : decode cX12_letters 485 = .ok (.bipush 104, 2) := by decide +kernel
theorem dX12_letters_487 : decode cX12_letters 487 = .ok (.bipush 97, 2) := by decide +kernel
theorem dX12_letters_489 : decode cX12_letters 489 = .ok (.bipush 110, 2) := by decide +kernel
theorem dX12_letters_491 : decode cX12_letters 491 = .ok (.bipush 100, 2) := by decide +kernel
theorem dX12_letters_493 : decode cX12_letters 493 = .ok (.iconst 0, 1) := by decide +kernel
theorem dX12_letters_494 : decode cX12_letters 494 = .ok (.iconst 0, 1) := by decide +kernel
theorem dX12_letters_495 : decode cX12_letters 495 = .ok (.iconst 0, 1) := by decide +kernel
theorem dX12_letters_496 : decode cX12_letters 496 = .ok (.iconst 0, 1) := by decide +kernel
theorem dX12_letters_497 : decode cX12_letters 497 = .ok (.invokestatic 175, 3) := by decide +kernel
theorem dX12_letters_500 : decode cX12_letters 500 = .ok (.lreturn, 1) := by decide +kernel
theorem dX12_letters_501 : decode cX12_letters 501 = .ok (.bipush 109, 2) := by decide +kernel
theorem dX12_letters_503 : decode cX12_letters 503 = .ok (.bipush 105, 2) := by decide +kernel
theorem dX12_letters_505 : decode cX12_letters 505 = .ok (.bipush 115, 2) := by decide +kernel
theorem dX12_letters_507 : decode cX12_letters 507 = .ok (.bipush 115, 2) := by decide +kernel
theorem dX12_letters_509 : decode cX12_letters 509 = .ok (.iconst 0, 1) := by decide +kernel
theorem dX12_letters_510 : decode cX12_letters 510 = .ok (.iconst 0, 1) := by decide +kernel
theorem dX12_letters_511 : decode cX12_letters 511 = .ok (.iconst 0, 1) := by decide +kernel
theorem dX12_letters_512 : decode cX12_letters 512 = .ok (.iconst 0, 1) := by decide +kernel
theorem dX12_letters_513 : decode cX12_letters 513 = .ok (.invokestatic 175, 3) := by decide +kernel
theorem dX12_letters_516 : decode cX12_letters 516 = .ok (.lreturn, 1) := by decide +kernel
theorem dX12_letters_517 : decode cX12_letters 517 = .ok (.bipush 110, 2) := by decide +kernel
theorem dX12_letters_519 : decode cX12_letters 519 = .ok (.bipush 111, 2) := by decide +kernel
theorem dX12_letters_521 : decode cX12_letters 521 = .ok (.bipush 105, 2) := by decide +kernel
theorem dX12_letters_523 : decode cX12_letters 523 = .ok (.bipush 115, 2) := by decide +kernel
theorem dX12_letters_525 : decode cX12_letters 525 = .ok (.bipush 101, 2) := by decide +kernel
theorem dX12_letters_527 : decode cX12_letters 527 = .ok (.iconst 0, 1) := by decide +kernel
theorem dX12_letters_528 : decode cX12_letters 528 = .ok (.iconst 0, 1) := by decide +kernel
theorem dX12_letters_529 : decode cX12_letters 529 = .ok (.iconst 0, 1) := by decide +kernel
theorem dX12_letters_530 : decode cX12_letters 530 = .ok (.invokestatic 175, 3) := by decide +kernel
theorem dX12_letters_533 : decode cX12_letters 533 = .ok (.lreturn, 1) := by decide +kernel
theorem dX12_letters_534 : decode cX12_letters 534 = .ok (.bipush 109, 2) := by decide +kernel
theorem dX12_letters_536 : decode cX12_letters 536 = .ok (.bipush 97, 2) := by decide +kernel
theorem dX12_letters_538 : decode cX12_letters 538 = .ok (.bipush 114, 2) := by decide +kernel
theorem dX12_letters_540 : decode cX12_letters 540 = .ok (.bipush 107, 2) := by decide +kernel
theorem dX12_letters_542 : decode cX12_letters 542 = .ok (.iconst 0, 1) := by decide +kernel
theorem dX12_letters_543 : decode cX12_letters 543 = .ok (.iconst 0, 1) := by decide +kernel
theorem dX12_letters_544 : decode cX12_letters 544 = .ok (.iconst 0, 1) := by decide +kernel
theorem dX12_letters_545 : decode cX12_letters 545 = .ok (.iconst 0, 1) := by decide +kernel
theorem dX12_letters_546 : decode cX12_letters 546 = .ok (.invokestatic 175, 3) := by decide +kernel
theorem dX12_letters_549 : decode cX12_letters 549 = .ok (.lreturn, 1) := by decide +kernel
theorem dX12_letters_550 : decode cX12_letters 550 = .ok (.bipush 99, 2) := by decide +kernel
theorem dX12_letters_552 : decode cX12_letters 552 = .ok (.bipush 108, 2) := by decide +kernel
theorem dX12_letters_554 : decode cX12_letters 554 = .ok (.bipush 117, 2) := by decide +kernel
theorem dX12_letters_556 : decode cX12_letters 556 = .ok (.bipush 110, 2) := by decide +kernel
theorem dX12_letters_558 : decode cX12_letters 558 = .ok (.bipush 103, 2) := by decide +kernel
theorem dX12_letters_560 : decode cX12_letters 560 = .ok (.iconst 0, 1) := by decide +kernel
theorem dX12_letters_561 : decode cX12_letters 561 = .ok (.iconst 0, 1) := by decide +kernel
theorem dX12_letters_562 : decode cX12_letters 562 = .ok (.iconst 0, 1) := by decide +kernel
theorem dX12_letters_563 : decode cX12_letters 563 = .ok (.invokestatic 175, 3) := by decide +kernel
theorem dX12_letters_566 : decode cX12_letters 566 = .ok (.lreturn, 1) := by decide +kernel
theorem dX12_letters_567 : decode cX12_letters 567 = .ok (.bipush 99, 2) := by decide +kernel
theorem dX12_letters_569 : decode cX12_letters 569 = .ok (.bipush 97, 2) := by decide +kernel
theorem dX12_letters_571 : decode cX12_letters 571 = .ok (.bipush 117, 2) := by decide +kernel
theorem dX12_letters_573 : decode cX12_letters 573 = .ok (.bipush 115, 2) := by decide +kernel
theorem dX12_letters_575 : decode cX12_letters 575 = .ok (.bipush 101, 2) := by decide +kernel
theorem dX12_letters_577 : decode cX12_letters 577 = .ok (.iconst 0, 1) := by decide +kernel
theorem dX12_letters_578 : decode cX12_letters 578 = .ok (.iconst 0, 1) := by decide +kernel
theorem dX12_letters_579 : decode cX12_letters 579 = .ok (.iconst 0, 1) := by decide +kernel
theorem dX12_letters_580 : decode cX12_letters 580 = .ok (.invokestatic 175, 3) := by decide +kernel
theorem dX12_letters_583 : decode cX12_letters 583 = .ok (.lreturn, 1) := by decide +kernel
theorem dX12_letters_584 : decode cX12_letters 584 = .ok (.bipush 116, 2) := by decide +kernel
theorem dX12_letters_586 : decode cX12_letters 586 = .ok (.bipush 114, 2) := by decide +kernel
theorem dX12_letters_588 : decode cX12_letters 588 = .ok (.bipush 121, 2) := by decide +kernel
theorem dX12_letters_590 : decode cX12_letters 590 = .ok (.iconst 0, 1) := by decide +kernel
theorem dX12_letters_591 : decode cX12_letters 591 = .ok (.iconst 0, 1) := by decide +kernel
theorem dX12_letters_592 : decode cX12_letters 592 = .ok (.iconst 0, 1) := by decide +kernel
theorem dX12_letters_593 : decode cX12_letters 593 = .ok (.iconst 0, 1) := by decide +kernel
theorem dX12_letters_594 : decode cX12_letters 594 = .ok (.iconst 0, 1) := by decide +kernel
theorem dX12_letters_595 : decode cX12_letters 595 = .ok (.invokestatic 175, 3) := by decide +kernel
theorem dX12_letters_598 : decode cX12_letters 598 = .ok (.lreturn, 1) := by decide +kernel
theorem dX12_letters_599 : decode cX12_letters 599 = .ok (.bipush 114, 2) := by decide +kernel
theorem dX12_letters_601 : decode cX12_letters 601 = .ok (.bipush 105, 2) := by decide +kernel
theorem dX12_letters_603 : decode cX12_letters 603 = .ok (.bipush 100, 2) := by decide +kernel
theorem dX12_letters_605 : decode cX12_letters 605 = .ok (.bipush 101, 2) := by decide +kernel
theorem dX12_letters_607 : decode cX12_letters 607 = .ok (.bipush 114, 2) := by decide +kernel
theorem dX12_letters_609 : decode cX12_letters 609 = .ok (.iconst 0, 1) := by decide +kernel
theorem dX12_letters_610 : decode cX12_letters 610 = .ok (.iconst 0, 1) := by decide +kernel
theorem dX12_letters_611 : decode cX12_letters 611 = .ok (.iconst 0, 1) := by decide +kernel
theorem dX12_letters_612 : decode cX12_letters 612 = .ok (.invokestatic 175, 3) := by decide +kernel
theorem dX12_letters_615 : decode cX12_letters 615 = .ok (.lreturn, 1) := by decide +kernel
theorem dX12_letters_616 : decode cX12_letters 616 = .ok (.bipush 102, 2) := by decide +kernel
theorem dX12_letters_618 : decode cX12_letters 618 = .ok (.bipush 108, 2) := by decide +kernel
theorem dX12_letters_620 : decode cX12_letters 620 = .ok (.bipush 97, 2) := by decide +kernel
theorem dX12_letters_622 : decode cX12_letters 622 = .ok (.bipush 116, 2) := by decide +kernel
theorem dX12_letters_624 : decode cX12_letters 624 = .ok (.iconst 0, 1) := by decide +kernel
theorem dX12_letters_625 : decode cX12_letters 625 = .ok (.iconst 0, 1) := by decide +kernel
theorem dX12_letters_626 : decode cX12_letters 626 = .ok (.iconst 0, 1) := by decide +kernel
theorem dX12_letters_627 : decode cX12_letters 627 = .ok (.iconst 0, 1) := by decide +kernel
theorem dX12_letters_628 : decode cX12_letters 628 = .ok (.invokestatic 175, 3) := by decide +kernel
theorem dX12_letters_631 : decode cX12_letters 631 = .ok (.lreturn, 1) := by decide +kernel
theorem dX12_letters_632 : decode cX12_letters 632 = .ok (.bipush 119, 2) := by decide +kernel
theorem dX12_letters_634 : decode cX12_letters 634 = .ok (.bipush 101, 2) := by decide +kernel
theorem dX12_letters_636 : decode cX12_letters 636 = .ok (.bipush 108, 2) := by decide +kernel
theorem dX12_letters_638 : decode cX12_letters 638 = .ok (.bipush 108, 2) := by decide +kernel
theorem dX12_letters_640 : decode cX12_letters 640 = .ok (.iconst 0, 1) := by decide +kernel
theorem dX12_letters_641 : decode cX12_letters 641 = .ok (.iconst 0, 1) := by decide +kernel
theorem dX12_letters_642 : decode cX12_letters 642 = .ok (.iconst 0, 1) := by decide +kernel
theorem dX12_letters_643 : decode cX12_letters 643 = .ok (.iconst 0, 1) := by decide +kernel
theorem dX12_letters_644 : decode cX12_letters 644 = .ok (.invokestatic 175, 3) := by decide +kernel
theorem dX12_letters_647 : decode cX12_letters 647 = .ok (.lreturn, 1) := by decide +kernel
theorem dX12_letters_648 : decode cX12_letters 648 = .ok (.bipush 108, 2) := by decide +kernel
theorem dX12_letters_650 : decode cX12_letters 650 = .ok (.bipush 101, 2) := by decide +kernel
theorem dX12_letters_652 : decode cX12_letters 652 = .ok (.bipush 97, 2) := by decide +kernel
theorem dX12_letters_654 : decode cX12_letters 654 = .ok (.bipush 107, 2) := by decide +kernel
theorem dX12_letters_656 : decode cX12_letters 656 = .ok (.iconst 0, 1) := by decide +kernel
theorem dX12_letters_657 : decode cX12_letters 657 = .ok (.iconst 0, 1) := by decide +kernel
theorem dX12_letters_658 : decode cX12_letters 658 = .ok (.iconst 0, 1) := by decide +kernel
theorem dX12_letters_659 : decode cX12_letters 659 = .ok (.iconst 0, 1) := by decide +kernel
theorem dX12_letters_660 : decode cX12_letters 660 = .ok (.invokestatic 175, 3) := by decide +kernel
theorem dX12_letters_663 : decode cX12_letters 663 = .ok (.lreturn, 1) := by decide +kernel
theorem dX12_letters_664 : decode cX12_letters 664 = .ok (.bipush 104, 2) := by decide +kernel
theorem dX12_letters_666 : decode cX12_letters 666 = .ok (.bipush 111, 2) := by decide +kernel
theorem dX12_letters_668 : decode cX12_letters 668 = .ok (.bipush 108, 2) := by decide +kernel
theorem dX12_letters_670 : decode cX12_letters 670 = .ok (.bipush 100, 2) := by decide +kernel
theorem dX12_letters_672 : decode cX12_letters 672 = .ok (.bipush 115, 2) := by decide +kernel
theorem dX12_letters_674 : decode cX12_letters 674 = .ok (.iconst 0, 1) := by decide +kernel
theorem dX12_letters_675 : decode cX12_letters 675 = .ok (.iconst 0, 1) := by decide +kernel
theorem dX12_letters_676 : decode cX12_letters 676 = .ok (.iconst 0, 1) := by decide +kernel
theorem dX12_letters_677 : decode cX12_letters 677 = .ok (.invokestatic 175, 3) := by decide +kernel
theorem dX12_letters_680 : decode cX12_letters 680 = .ok (.lreturn, 1) := by decide +kernel
theorem dX12_letters_681 : decode cX12_letters 681 = .ok (.bipush 97, 2) := by decide +kernel
theorem dX12_letters_683 : decode cX12_letters 683 = .ok (.bipush 110, 2) := by decide +kernel
theorem dX12_letters_685 : decode cX12_letters 685 = .ok (.bipush 100, 2) := by decide +kernel
theorem dX12_letters_687 : decode cX12_letters 687 = .ok (.iconst 0, 1) := by decide +kernel
theorem dX12_letters_688 : decode cX12_letters 688 = .ok (.iconst 0, 1) := by decide +kernel
theorem dX12_letters_689 : decode cX12_letters 689 = .ok (.iconst 0, 1) := by decide +kernel
theorem dX12_letters_690 : decode cX12_letters 690 = .ok (.iconst 0, 1) := by decide +kernel
theorem dX12_letters_691 : decode cX12_letters 691 = .ok (.iconst 0, 1) := by decide +kernel
theorem dX12_letters_692 : decode cX12_letters 692 = .ok (.invokestatic 175, 3) := by decide +kernel
theorem dX12_letters_695 : decode cX12_letters 695 = .ok (.lreturn, 1) := by decide +kernel
theorem dX12_letters_696 : decode cX12_letters 696 = .ok (.bipush 111, 2) := by decide +kernel
theorem dX12_letters_698 : decode cX12_letters 698 = .ok (.bipush 114, 2) := by decide +kernel
theorem dX12_letters_700 : decode cX12_letters 700 = .ok (.iconst 0, 1) := by decide +kernel
theorem dX12_letters_701 : decode cX12_letters 701 = .ok (.iconst 0, 1) := by decide +kernel
theorem dX12_letters_702 : decode cX12_letters 702 = .ok (.iconst 0, 1) := by decide +kernel
theorem dX12_letters_703 : decode cX12_letters 703 = .ok (.iconst 0, 1) := by decide +kernel
theorem dX12_letters_704 : decode cX12_letters 704 = .ok (.iconst 0, 1) := by decide +kernel
theorem dX12_letters_705 : decode cX12_letters 705 = .ok (.iconst 0, 1) := by decide +kernel
theorem dX12_letters_706 : decode cX12_letters 706 = .ok (.invokestatic 175, 3) := by decide +kernel
theorem dX12_letters_709 : decode cX12_letters 709 = .ok (.lreturn, 1) := by decide +kernel
theorem dX12_letters_710 : decode cX12_letters 710 = .ok (.bipush 110, 2) := by decide +kernel
theorem dX12_letters_712 : decode cX12_letters 712 = .ok (.bipush 111, 2) := by decide +kernel
theorem dX12_letters_714 : decode cX12_letters 714 = .ok (.bipush 116, 2) := by decide +kernel
theorem dX12_letters_716 : decode cX12_letters 716 = .ok (.iconst 0, 1) := by decide +kernel
theorem dX12_letters_717 : decode cX12_letters 717 = .ok (.iconst 0, 1) := by decide +kernel
theorem dX12_letters_718 : decode cX12_letters 718 = .ok (.iconst 0, 1) := by decide +kernel
theorem dX12_letters_719 : decode cX12_letters 719 = .ok (.iconst 0, 1) := by decide +kernel
theorem dX12_letters_720 : decode cX12_letters 720 = .ok (.iconst 0, 1) := by decide +kernel
theorem dX12_letters_721 : decode cX12_letters 721 = .ok (.invokestatic 175, 3) := by decide +kernel
theorem dX12_letters_724 : decode cX12_letters 724 = .ok (.lreturn, 1) := by decide +kernel
theorem dX12_knownWord_0 : decode cX12_knownWord 0 = .ok (.aload_n 0, 1) := by decide +kernel
theorem dX12_knownWord_1 : decode cX12_knownWord 1 = .ok (.getfield 160, 3) := by decide +kernel
theorem dX12_knownWord_4 : decode cX12_knownWord 4 = .ok (.iconst 1, 1) := by decide +kernel
theorem dX12_knownWord_5 : decode cX12_knownWord 5 = .ok (.if_icmp .ne 12, 3) := by decide +kernel
theorem dX12_knownWord_8 : decode cX12_knownWord 8 = .ok (.aload_n 0, 1) := by decide +kernel
theorem dX12_knownWord_9 : decode cX12_knownWord 9 = .ok (.getfield 170, 3) := by decide +kernel
theorem dX12_knownWord_12 : decode cX12_knownWord 12 = .ok (.bipush 8, 2) := by decide +kernel
theorem dX12_knownWord_14 : decode cX12_knownWord 14 = .ok (.if_icmp .le 5, 3) := by decide +kernel
theorem dX12_knownWord_17 : decode cX12_knownWord 17 = .ok (.iconst (-1), 1) := by decide +kernel
theorem dX12_knownWord_18 : decode cX12_knownWord 18 = .ok (.ireturn, 1) := by decide +kernel
theorem dX12_knownWord_19 : decode cX12_knownWord 19 = .ok (.iconst 0, 1) := by decide +kernel
theorem dX12_knownWord_20 : decode cX12_knownWord 20 = .ok (.istore_n 1, 1) := by decide +kernel
theorem dX12_knownWord_21 : decode cX12_knownWord 21 = .ok (.iload_n 1, 1) := by decide +kernel
theorem dX12_knownWord_22 : decode cX12_knownWord 22 = .ok (.bipush 35, 2) := by decide +kernel
theorem dX12_knownWord_24 : decode cX12_knownWord 24 = .ok (.if_icmp .ge 23, 3) := by decide +kernel
theorem dX12_knownWord_27 : decode cX12_knownWord 27 = .ok (.iload_n 1, 1) := by decide +kernel
theorem dX12_knownWord_28 : decode cX12_knownWord 28 = .ok (.invokestatic 179, 3) := by decide +kernel
theorem dX12_knownWord_31 : decode cX12_knownWord 31 = .ok (.aload_n 0, 1) := by decide +kernel
theorem dX12_knownWord_32 : decode cX12_knownWord 32 = .ok (.getfield 150, 3) := by decide +kernel
theorem dX12_knownWord_35 : decode cX12_knownWord 35 = .ok (.lcmp, 1) := by decide +kernel
theorem dX12_knownWord_36 : decode cX12_knownWord 36 = .ok (.ifCond .ne 5, 3) := by decide +kernel
theorem dX12_knownWord_39 : decode cX12_knownWord 39 = .ok (.iload_n 1, 1) := by decide +kernel
theorem dX12_knownWord_40 : decode cX12_knownWord 40 = .ok (.ireturn, 1) := by decide +kernel
theorem dX12_knownWord_41 : decode cX12_knownWord 41 = .ok (.iinc 1 1, 3) := by decide +kernel
theorem dX12_knownWord_44 : decode cX12_knownWord 44 = .ok (.goto (-23), 3) := by decide +kernel
theorem dX12_knownWord_47 : decode cX12_knownWord 47 = .ok (.iconst (-1), 1) := by decide +kernel
theorem dX12_knownWord_48 : decode cX12_knownWord 48 = .ok (.ireturn, 1) := by decide +kernel
theorem dX12_wrong_0 : decode cX12_wrong 0 = .ok (.aload_n 0, 1) := by decide +kernel
theorem dX12_wrong_1 : decode cX12_wrong 1 = .ok (.getfield 183, 3) := by decide +kernel
theorem dX12_wrong_4 : decode cX12_wrong 4 = .ok (.ifCond .eq 4, 3) := by decide +kernel
theorem dX12_wrong_7 : decode cX12_wrong 7 = .ok (.return_, 1) := by decide +kernel
theorem dX12_wrong_8 : decode cX12_wrong 8 = .ok (.aload_n 0, 1) := by decide +kernel
theorem dX12_wrong_9 : decode cX12_wrong 9 = .ok (.iload_n 1, 1) := by decide +kernel
theorem dX12_wrong_10 : decode cX12_wrong 10 = .ok (.putfield 183, 3) := by decide +kernel
theorem dX12_wrong_13 : decode cX12_wrong 13 = .ok (.aload_n 0, 1) := by decide +kernel
theorem dX12_wrong_14 : decode cX12_wrong 14 = .ok (.aload_n 0, 1) := by decide +kernel
theorem dX12_wrong_15 : decode cX12_wrong 15 = .ok (.getfield 147, 3) := by decide +kernel
theorem dX12_wrong_18 : decode cX12_wrong 18 = .ok (.putfield 56, 3) := by decide +kernel
theorem dX12_wrong_21 : decode cX12_wrong 21 = .ok (.return_, 1) := by decide +kernel
theorem dX12_isGood_0 : decode cX12_isGood 0 = .ok (.aload_n 0, 1) := by decide +kernel
theorem dX12_isGood_1 : decode cX12_isGood 1 = .ok (.getfield 183, 3) := by decide +kernel
theorem dX12_isGood_4 : decode cX12_isGood 4 = .ok (.ifCond .ne 7, 3) := by decide +kernel
theorem dX12_isGood_7 : decode cX12_isGood 7 = .ok (.iconst 1, 1) := by decide +kernel
theorem dX12_isGood_8 : decode cX12_isGood 8 = .ok (.goto 4, 3) := by decide +kernel
theorem dX12_isGood_11 : decode cX12_isGood 11 = .ok (.iconst 0, 1) := by decide +kernel
theorem dX12_isGood_12 : decode cX12_isGood 12 = .ok (.ireturn, 1) := by decide +kernel
theorem dX12_isSign_0 : decode cX12_isSign 0 = .ok (.aload_n 0, 1) := by decide +kernel
theorem dX12_isSign_1 : decode cX12_isSign 1 = .ok (.getfield 160, 3) := by decide +kernel
theorem dX12_isSign_4 : decode cX12_isSign 4 = .ok (.iconst 3, 1) := by decide +kernel
theorem dX12_isSign_5 : decode cX12_isSign 5 = .ok (.if_icmp .ne 15, 3) := by decide +kernel
theorem dX12_isSign_8 : decode cX12_isSign 8 = .ok (.aload_n 0, 1) := by decide +kernel
theorem dX12_isSign_9 : decode cX12_isSign 9 = .ok (.getfield 157, 3) := by decide +kernel
theorem dX12_isSign_12 : decode cX12_isSign 12 = .ok (.iload_n 1, 1) := by decide +kernel
theorem dX12_isSign_13 : decode cX12_isSign 13 = .ok (.if_icmp .ne 7, 3) := by decide +kernel
theorem dX12_isSign_16 : decode cX12_isSign 16 = .ok (.iconst 1, 1) := by decide +kernel
theorem dX12_isSign_17 : decode cX12_isSign 17 = .ok (.goto 4, 3) := by decide +kernel
theorem dX12_isSign_20 : decode cX12_isSign 20 = .ok (.iconst 0, 1) := by decide +kernel
theorem dX12_isSign_21 : decode cX12_isSign 21 = .ok (.ireturn, 1) := by decide +kernel
theorem dX12_need_0 : decode cX12_need 0 = .ok (.aload_n 0, 1) := by decide +kernel
theorem dX12_need_1 : decode cX12_need 1 = .ok (.invokevirtual 186, 3) := by decide +kernel
theorem dX12_need_4 : decode cX12_need 4 = .ok (.ifCond .ne 4, 3) := by decide +kernel
theorem dX12_need_7 : decode cX12_need 7 = .ok (.return_, 1) := by decide +kernel
theorem dX12_need_8 : decode cX12_need 8 = .ok (.iload_n 1, 1) := by decide +kernel
theorem dX12_need_9 : decode cX12_need 9 = .ok (.ifCond .eq 10, 3) := by decide +kernel
theorem dX12_need_12 : decode cX12_need 12 = .ok (.aload_n 0, 1) := by decide +kernel
theorem dX12_need_13 : decode cX12_need 13 = .ok (.invokevirtual 190, 3) := by decide +kernel
theorem dX12_need_16 : decode cX12_need 16 = .ok (.goto 8, 3) := by decide +kernel
theorem dX12_need_19 : decode cX12_need 19 = .ok (.aload_n 0, 1) := by decide +kernel
theorem dX12_need_20 : decode cX12_need 20 = .ok (.iconst 1, 1) := by decide +kernel
theorem dX12_need_21 : decode cX12_need 21 = .ok (.invokevirtual 193, 3) := by decide +kernel
theorem dX12_need_24 : decode cX12_need 24 = .ok (.return_, 1) := by decide +kernel
theorem dX12_number_0 : decode cX12_number 0 = .ok (.aload_n 0, 1) := by decide +kernel
theorem dX12_number_1 : decode cX12_number 1 = .ok (.invokevirtual 186, 3) := by decide +kernel
theorem dX12_number_4 : decode cX12_number 4 = .ok (.ifCond .ne 5, 3) := by decide +kernel
theorem dX12_number_7 : decode cX12_number 7 = .ok (.iconst 0, 1) := by decide +kernel
theorem dX12_number_8 : decode cX12_number 8 = .ok (.ireturn, 1) := by decide +kernel
theorem dX12_number_9 : decode cX12_number 9 = .ok (.aload_n 0, 1) := by decide +kernel
theorem dX12_number_10 : decode cX12_number 10 = .ok (.getfield 160, 3) := by decide +kernel
theorem dX12_number_13 : decode cX12_number 13 = .ok (.iconst 2, 1) := by decide +kernel
theorem dX12_number_14 : decode cX12_number 14 = .ok (.if_icmp .eq 11, 3) := by decide +kernel
theorem dX12_number_17 : decode cX12_number 17 = .ok (.aload_n 0, 1) := by decide +kernel
theorem dX12_number_18 : decode cX12_number 18 = .ok (.iconst 1, 1) := by decide +kernel
theorem dX12_number_19 : decode cX12_number 19 = .ok (.invokevirtual 193, 3) := by decide +kernel
theorem dX12_number_22 : decode cX12_number 22 = .ok (.goto 32, 3) := by decide +kernel
theorem dX12_number_25 : decode cX12_number 25 = .ok (.aload_n 0, 1) := by decide +kernel
theorem dX12_number_26 : decode cX12_number 26 = .ok (.getfield 170, 3) := by decide +kernel
theorem dX12_number_29 : decode cX12_number 29 = .ok (.iconst 4, 1) := by decide +kernel
theorem dX12_number_30 : decode cX12_number 30 = .ok (.if_icmp .gt 19, 3) := by decide +kernel
theorem dX12_number_33 : decode cX12_number 33 = .ok (.aload_n 0, 1) := by decide +kernel
theorem dX12_number_34 : decode cX12_number 34 = .ok (.getfield 154, 3) := by decide +kernel
theorem dX12_number_37 : decode cX12_number 37 = .ok (.iload_n 1, 1) := by decide +kernel
theorem dX12_number_38 : decode cX12_number 38 = .ok (.if_icmp .lt 11, 3) := by decide +kernel
theorem dX12_number_41 : decode cX12_number 41 = .ok (.aload_n 0, 1) := by decide +kernel
theorem dX12_number_42 : decode cX12_number 42 = .ok (.getfield 154, 3) := by decide +kernel
theorem dX12_number_45 : decode cX12_number 45 = .ok (.iload_n 2, 1) := by decide +kernel
theorem dX12_number_46 : decode cX12_number 46 = .ok (.if_icmp .le 8, 3) := by decide +kernel
theorem dX12_number_49 : decode cX12_number 49 = .ok (.aload_n 0, 1) := by decide +kernel
theorem dX12_number_50 : decode cX12_number 50 = .ok (.iconst 2, 1) := by decide +kernel
theorem dX12_number_51 : decode cX12_number 51 = .ok (.invokevirtual 193, 3) := by decide +kernel
theorem dX12_number_54 : decode cX12_number 54 = .ok (.aload_n 0, 1) := by decide +kernel
theorem dX12_number_55 : decode cX12_number 55 = .ok (.getfield 154, 3) := by decide +kernel
theorem dX12_number_58 : decode cX12_number 58 = .ok (.istore_n 3, 1) := by decide +kernel
theorem dX12_number_59 : decode cX12_number 59 = .ok (.aload_n 0, 1) := by decide +kernel
theorem dX12_number_60 : decode cX12_number 60 = .ok (.invokevirtual 186, 3) := by decide +kernel
theorem dX12_number_63 : decode cX12_number 63 = .ok (.ifCond .eq 7, 3) := by decide +kernel
theorem dX12_number_66 : decode cX12_number 66 = .ok (.aload_n 0, 1) := by decide +kernel
theorem dX12_number_67 : decode cX12_number 67 = .ok (.invokevirtual 190, 3) := by decide +kernel
theorem dX12_number_70 : decode cX12_number 70 = .ok (.iload_n 3, 1) := by decide +kernel
theorem dX12_number_71 : decode cX12_number 71 = .ok (.ireturn, 1) := by decide +kernel
theorem dX12_isValue_0 : decode cX12_isValue 0 = .ok (.iload_n 1, 1) := by decide +kernel
theorem dX12_isValue_1 : decode cX12_isValue 1 = .ok (.ifCond .eq 39, 3) := by decide +kernel
theorem dX12_isValue_4 : decode cX12_isValue 4 = .ok (.iload_n 1, 1) := by decide +kernel
theorem dX12_isValue_5 : decode cX12_isValue 5 = .ok (.iconst 1, 1) := by decide +kernel
theorem dX12_isValue_6 : decode cX12_isValue 6 = .ok (.if_icmp .eq 34, 3) := by decide +kernel
theorem dX12_isValue_9 : decode cX12_isValue 9 = .ok (.aload_n 0, 1) := by decide +kernel
theorem dX12_isValue_10 : decode cX12_isValue 10 = .ok (.getfield 196, 3) := by decide +kernel
theorem dX12_isValue_13 : decode cX12_isValue 13 = .ok (.ifCond .eq 17, 3) := by decide +kernel
theorem dX12_isValue_16 : decode cX12_isValue 16 = .ok (.iload_n 1, 1) := by decide +kernel
theorem dX12_isValue_17 : decode cX12_isValue 17 = .ok (.iconst 5, 1) := by decide +kernel
theorem dX12_isValue_18 : decode cX12_isValue 18 = .ok (.if_icmp .lt 26, 3) := by decide +kernel
theorem dX12_isValue_21 : decode cX12_isValue 21 = .ok (.iload_n 1, 1) := by decide +kernel
theorem dX12_isValue_22 : decode cX12_isValue 22 = .ok (.bipush 8, 2) := by decide +kernel
theorem dX12_isValue_24 : decode cX12_isValue 24 = .ok (.if_icmp .gt 20, 3) := by decide +kernel
theorem dX12_isValue_27 : decode cX12_isValue 27 = .ok (.goto 13, 3) := by decide +kernel
theorem dX12_isValue_30 : decode cX12_isValue 30 = .ok (.iload_n 1, 1) := by decide +kernel
theorem dX12_isValue_31 : decode cX12_isValue 31 = .ok (.iconst 2, 1) := by decide +kernel
theorem dX12_isValue_32 : decode cX12_isValue 32 = .ok (.if_icmp .lt 12, 3) := by decide +kernel
theorem dX12_isValue_35 : decode cX12_isValue 35 = .ok (.iload_n 1, 1) := by decide +kernel
theorem dX12_isValue_36 : decode cX12_isValue 36 = .ok (.iconst 4, 1) := by decide +kernel
theorem dX12_isValue_37 : decode cX12_isValue 37 = .ok (.if_icmp .gt 7, 3) := by decide +kernel
theorem dX12_isValue_40 : decode cX12_isValue 40 = .ok (.iconst 1, 1) := by decide +kernel
theorem dX12_isValue_41 : decode cX12_isValue 41 = .ok (.goto 4, 3) := by decide +kernel
theorem dX12_isValue_44 : decode cX12_isValue 44 = .ok (.iconst 0, 1) := by decide +kernel
theorem dX12_isValue_45 : decode cX12_isValue 45 = .ok (.ireturn, 1) := by decide +kernel
theorem dX12_puts_0 : decode cX12_puts 0 = .ok (.aload_n 0, 1) := by decide +kernel
theorem dX12_puts_1 : decode cX12_puts 1 = .ok (.getfield 74, 3) := by decide +kernel
theorem dX12_puts_4 : decode cX12_puts 4 = .ok (.aload_n 0, 1) := by decide +kernel
theorem dX12_puts_5 : decode cX12_puts 5 = .ok (.getfield 200, 3) := by decide +kernel
theorem dX12_puts_8 : decode cX12_puts 8 = .ok (.iload_n 1, 1) := by decide +kernel
theorem dX12_puts_9 : decode cX12_puts 9 = .ok (.iastore, 1) := by decide +kernel
theorem dX12_puts_10 : decode cX12_puts 10 = .ok (.aload_n 0, 1) := by decide +kernel
theorem dX12_puts_11 : decode cX12_puts 11 = .ok (.dup, 1) := by decide +kernel
theorem dX12_puts_12 : decode cX12_puts 12 = .ok (.getfield 200, 3) := by decide +kernel
theorem dX12_puts_15 : decode cX12_puts 15 = .ok (.iconst 1, 1) := by decide +kernel
theorem dX12_puts_16 : decode cX12_puts 16 = .ok (.iadd, 1) := by decide +kernel
theorem dX12_puts_17 : decode cX12_puts 17 = .ok (.putfield 200, 3) := by decide +kernel
theorem dX12_puts_20 : decode cX12_puts 20 = .ok (.return_, 1) := by decide +kernel
theorem dX12_isOpen_0 : decode cX12_isOpen 0 = .ok (.iload_n 0, 1) := by decide +kernel
theorem dX12_isOpen_1 : decode cX12_isOpen 1 = .ok (.bipush 14, 2) := by decide +kernel
theorem dX12_isOpen_3 : decode cX12_isOpen 3 = .ok (.if_icmp .lt 7, 3) := by decide +kernel
theorem dX12_isOpen_6 : decode cX12_isOpen 6 = .ok (.iconst 1, 1) := by decide +kernel
theorem dX12_isOpen_7 : decode cX12_isOpen 7 = .ok (.goto 4, 3) := by decide +kernel
theorem dX12_isOpen_10 : decode cX12_isOpen 10 = .ok (.iconst 0, 1) := by decide +kernel
theorem dX12_isOpen_11 : decode cX12_isOpen 11 = .ok (.ireturn, 1) := by decide +kernel
theorem dX12_strength_0 : decode cX12_strength 0 = .ok (.iload_n 0, 1) := by decide +kernel
theorem dX12_strength_1 : decode cX12_strength 1 = .ok (.iconst 5, 1) := by decide +kernel
theorem dX12_strength_2 : decode cX12_strength 2 = .ok (.if_icmp .ne 7, 3) := by decide +kernel
theorem dX12_strength_5 : decode cX12_strength 5 = .ok (.iconst 1, 1) := by decide +kernel
theorem dX12_strength_6 : decode cX12_strength 6 = .ok (.goto 55, 3) := by decide +kernel
theorem dX12_strength_9 : decode cX12_strength 9 = .ok (.iload_n 0, 1) := by decide +kernel
theorem dX12_strength_10 : decode cX12_strength 10 = .ok (.iconst 4, 1) := by decide +kernel
theorem dX12_strength_11 : decode cX12_strength 11 = .ok (.if_icmp .ne 7, 3) := by decide +kernel
theorem dX12_strength_14 : decode cX12_strength 14 = .ok (.iconst 2, 1) := by decide +kernel
theorem dX12_strength_15 : decode cX12_strength 15 = .ok (.goto 46, 3) := by decide +kernel
theorem dX12_strength_18 : decode cX12_strength 18 = .ok (.iload_n 0, 1) := by decide +kernel
theorem dX12_strength_19 : decode cX12_strength 19 = .ok (.iconst 3, 1) := by decide +kernel
theorem dX12_strength_20 : decode cX12_strength 20 = .ok (.if_icmp .ne 7, 3) := by decide +kernel
theorem dX12_strength_23 : decode cX12_strength 23 = .ok (.iconst 3, 1) := by decide +kernel
theorem dX12_strength_24 : decode cX12_strength 24 = .ok (.goto 37, 3) := by decide +kernel
theorem dX12_strength_27 : decode cX12_strength 27 = .ok (.iload_n 0, 1) := by decide +kernel
theorem dX12_strength_28 : decode cX12_strength 28 = .ok (.bipush 6, 2) := by decide +kernel
theorem dX12_strength_30 : decode cX12_strength 30 = .ok (.if_icmp .eq 9, 3) := by decide +kernel
theorem dX12_strength_33 : decode cX12_strength 33 = .ok (.iload_n 0, 1) := by decide +kernel
theorem dX12_strength_34 : decode cX12_strength 34 = .ok (.bipush 7, 2) := by decide +kernel
theorem dX12_strength_36 : decode cX12_strength 36 = .ok (.if_icmp .ne 7, 3) := by decide +kernel
theorem dX12_strength_39 : decode cX12_strength 39 = .ok (.iconst 4, 1) := by decide +kernel
theorem dX12_strength_40 : decode cX12_strength 40 = .ok (.goto 21, 3) := by decide +kernel
theorem dX12_strength_43 : decode cX12_strength 43 = .ok (.iload_n 0, 1) := by decide +kernel
theorem dX12_strength_44 : decode cX12_strength 44 = .ok (.bipush 8, 2) := by decide +kernel
theorem dX12_strength_46 : decode cX12_strength 46 = .ok (.if_icmp .eq 9, 3) := by decide +kernel
theorem dX12_strength_49 : decode cX12_strength 49 = .ok (.iload_n 0, 1) := by decide +kernel
theorem dX12_strength_50 : decode cX12_strength 50 = .ok (.bipush 9, 2) := by decide +kernel
theorem dX12_strength_52 : decode cX12_strength 52 = .ok (.if_icmp .ne 7, 3) := by decide +kernel
theorem dX12_strength_55 : decode cX12_strength 55 = .ok (.iconst 5, 1) := by decide +kernel
theorem dX12_strength_56 : decode cX12_strength 56 = .ok (.goto 5, 3) := by decide +kernel
theorem dX12_strength_59 : decode cX12_strength 59 = .ok (.bipush 6, 2) := by decide +kernel
theorem dX12_strength_61 : decode cX12_strength 61 = .ok (.ireturn, 1) := by decide +kernel
theorem dX12_drops_0 : decode cX12_drops 0 = .ok (.aload_n 0, 1) := by decide +kernel
theorem dX12_drops_1 : decode cX12_drops 1 = .ok (.getfield 203, 3) := by decide +kernel
theorem dX12_drops_4 : decode cX12_drops 4 = .ok (.ifCond .le 64, 3) := by decide +kernel
theorem dX12_drops_7 : decode cX12_drops 7 = .ok (.aload_n 0, 1) := by decide +kernel
theorem dX12_drops_8 : decode cX12_drops 8 = .ok (.getfield 77, 3) := by decide +kernel
theorem dX12_drops_11 : decode cX12_drops 11 = .ok (.aload_n 0, 1) := by decide +kernel
theorem dX12_drops_12 : decode cX12_drops 12 = .ok (.getfield 203, 3) := by decide +kernel
theorem dX12_drops_15 : decode cX12_drops 15 = .ok (.iconst 1, 1) := by decide +kernel
theorem dX12_drops_16 : decode cX12_drops 16 = .ok (.isub, 1) := by decide +kernel
theorem dX12_drops_17 : decode cX12_drops 17 = .ok (.iaload, 1) := by decide +kernel
theorem dX12_drops_18 : decode cX12_drops 18 = .ok (.invokestatic 206, 3) := by decide +kernel
theorem dX12_drops_21 : decode cX12_drops 21 = .ok (.ifCond .ne 47, 3) := by decide +kernel
theorem dX12_drops_24 : decode cX12_drops 24 = .ok (.aload_n 0, 1) := by decide +kernel
theorem dX12_drops_25 : decode cX12_drops 25 = .ok (.getfield 77, 3) := by decide +kernel
theorem dX12_drops_28 : decode cX12_drops 28 = .ok (.aload_n 0, 1) := by decide +kernel
theorem dX12_drops_29 : decode cX12_drops 29 = .ok (.getfield 203, 3) := by decide +kernel
theorem dX12_drops_32 : decode cX12_drops 32 = .ok (.iconst 1, 1) := by decide +kernel
theorem dX12_drops_33 : decode cX12_drops 33 = .ok (.isub, 1) := by decide +kernel
theorem dX12_drops_34 : decode cX12_drops 34 = .ok (.iaload, 1) := by decide +kernel
theorem dX12_drops_35 : decode cX12_drops 35 = .ok (.invokestatic 209, 3) := by decide +kernel
theorem dX12_drops_38 : decode cX12_drops 38 = .ok (.iload_n 1, 1) := by decide +kernel
theorem dX12_drops_39 : decode cX12_drops 39 = .ok (.if_icmp .lt 29, 3) := by decide +kernel
theorem dX12_drops_42 : decode cX12_drops 42 = .ok (.aload_n 0, 1) := by decide +kernel
theorem dX12_drops_43 : decode cX12_drops 43 = .ok (.dup, 1) := by decide +kernel
theorem dX12_drops_44 : decode cX12_drops 44 = .ok (.getfield 203, 3) := by decide +kernel
theorem dX12_drops_47 : decode cX12_drops 47 = .ok (.iconst 1, 1) := by decide +kernel
theorem dX12_drops_48 : decode cX12_drops 48 = .ok (.isub, 1) := by decide +kernel
theorem dX12_drops_49 : decode cX12_drops 49 = .ok (.putfield 203, 3) := by decide +kernel
theorem dX12_drops_52 : decode cX12_drops 52 = .ok (.aload_n 0, 1) := by decide +kernel
theorem dX12_drops_53 : decode cX12_drops 53 = .ok (.aload_n 0, 1) := by decide +kernel
theorem dX12_drops_54 : decode cX12_drops 54 = .ok (.getfield 77, 3) := by decide +kernel
theorem dX12_drops_57 : decode cX12_drops 57 = .ok (.aload_n 0, 1) := by decide +kernel
theorem dX12_drops_58 : decode cX12_drops 58 = .ok (.getfield 203, 3) := by decide +kernel
theorem dX12_drops_61 : decode cX12_drops 61 = .ok (.iaload, 1) := by decide +kernel
theorem dX12_drops_62 : decode cX12_drops 62 = .ok (.invokevirtual 211, 3) := by decide +kernel
theorem dX12_drops_65 : decode cX12_drops 65 = .ok (.goto (-65), 3) := by decide +kernel
theorem dX12_drops_68 : decode cX12_drops 68 = .ok (.return_, 1) := by decide +kernel
theorem dX12_waitsFor_0 : decode cX12_waitsFor 0 = .ok (.aload_n 0, 1) := by decide +kernel
theorem dX12_waitsFor_1 : decode cX12_waitsFor 1 = .ok (.getfield 77, 3) := by decide +kernel
theorem dX12_waitsFor_4 : decode cX12_waitsFor 4 = .ok (.aload_n 0, 1) := by decide +kernel
theorem dX12_waitsFor_5 : decode cX12_waitsFor 5 = .ok (.getfield 203, 3) := by decide +kernel
theorem dX12_waitsFor_8 : decode cX12_waitsFor 8 = .ok (.iload_n 1, 1) := by decide +kernel
theorem dX12_waitsFor_9 : decode cX12_waitsFor 9 = .ok (.iastore, 1) := by decide +kernel
theorem dX12_waitsFor_10 : decode cX12_waitsFor 10 = .ok (.aload_n 0, 1) := by decide +kernel
theorem dX12_waitsFor_11 : decode cX12_waitsFor 11 = .ok (.dup, 1) := by decide +kernel
theorem dX12_waitsFor_12 : decode cX12_waitsFor 12 = .ok (.getfield 203, 3) := by decide +kernel
theorem dX12_waitsFor_15 : decode cX12_waitsFor 15 = .ok (.iconst 1, 1) := by decide +kernel
theorem dX12_waitsFor_16 : decode cX12_waitsFor 16 = .ok (.iadd, 1) := by decide +kernel
theorem dX12_waitsFor_17 : decode cX12_waitsFor 17 = .ok (.putfield 203, 3) := by decide +kernel
theorem dX12_waitsFor_20 : decode cX12_waitsFor 20 = .ok (.return_, 1) := by decide +kernel
theorem dX12_part_0 : decode cX12_part 0 = .ok (.aload_n 0, 1) := by decide +kernel
theorem dX12_part_1 : decode cX12_part 1 = .ok (.invokevirtual 186, 3) := by decide +kernel
theorem dX12_part_4 : decode cX12_part 4 = .ok (.ifCond .ne 4, 3) := by decide +kernel
theorem dX12_part_7 : decode cX12_part 7 = .ok (.return_, 1) := by decide +kernel
theorem dX12_part_8 : decode cX12_part 8 = .ok (.aload_n 0, 1) := by decide +kernel
theorem dX12_part_9 : decode cX12_part 9 = .ok (.getfield 160, 3) := by decide +kernel
theorem dX12_part_12 : decode cX12_part 12 = .ok (.iconst 2, 1) := by decide +kernel
theorem dX12_part_13 : decode cX12_part 13 = .ok (.if_icmp .ne 32, 3) := by decide +kernel
theorem dX12_part_16 : decode cX12_part 16 = .ok (.aload_n 0, 1) := by decide +kernel
theorem dX12_part_17 : decode cX12_part 17 = .ok (.getfield 170, 3) := by decide +kernel
theorem dX12_part_20 : decode cX12_part 20 = .ok (.iconst 4, 1) := by decide +kernel
theorem dX12_part_21 : decode cX12_part 21 = .ok (.if_icmp .le 8, 3) := by decide +kernel
theorem dX12_part_24 : decode cX12_part 24 = .ok (.aload_n 0, 1) := by decide +kernel
theorem dX12_part_25 : decode cX12_part 25 = .ok (.iconst 2, 1) := by decide +kernel
theorem dX12_part_26 : decode cX12_part 26 = .ok (.invokevirtual 193, 3) := by decide +kernel
theorem dX12_part_29 : decode cX12_part 29 = .ok (.aload_n 0, 1) := by decide +kernel
theorem dX12_part_30 : decode cX12_part 30 = .ok (.iconst 1, 1) := by decide +kernel
theorem dX12_part_31 : decode cX12_part 31 = .ok (.invokevirtual 211, 3) := by decide +kernel
theorem dX12_part_34 : decode cX12_part 34 = .ok (.aload_n 0, 1) := by decide +kernel
theorem dX12_part_35 : decode cX12_part 35 = .ok (.aload_n 0, 1) := by decide +kernel
theorem dX12_part_36 : decode cX12_part 36 = .ok (.getfield 154, 3) := by decide +kernel
theorem dX12_part_39 : decode cX12_part 39 = .ok (.invokevirtual 211, 3) := by decide +kernel
theorem dX12_part_42 : decode cX12_part 42 = .ok (.goto 47, 3) := by decide +kernel
theorem dX12_part_45 : decode cX12_part 45 = .ok (.aload_n 0, 1) := by decide +kernel
theorem dX12_part_46 : decode cX12_part 46 = .ok (.getfield 160, 3) := by decide +kernel
theorem dX12_part_49 : decode cX12_part 49 = .ok (.iconst 1, 1) := by decide +kernel
theorem dX12_part_50 : decode cX12_part 50 = .ok (.if_icmp .ne 34, 3) := by decide +kernel
theorem dX12_part_53 : decode cX12_part 53 = .ok (.aload_n 0, 1) := by decide +kernel
theorem dX12_part_54 : decode cX12_part 54 = .ok (.invokevirtual 214, 3) := by decide +kernel
theorem dX12_part_57 : decode cX12_part 57 = .ok (.istore_n 1, 1) := by decide +kernel
theorem dX12_part_58 : decode cX12_part 58 = .ok (.aload_n 0, 1) := by decide +kernel
theorem dX12_part_59 : decode cX12_part 59 = .ok (.iload_n 1, 1) := by decide +kernel
theorem dX12_part_60 : decode cX12_part 60 = .ok (.invokevirtual 218, 3) := by decide +kernel
theorem dX12_part_63 : decode cX12_part 63 = .ok (.ifCond .ne 8, 3) := by decide +kernel
theorem dX12_part_66 : decode cX12_part 66 = .ok (.aload_n 0, 1) := by decide +kernel
theorem dX12_part_67 : decode cX12_part 67 = .ok (.iconst 3, 1) := by decide +kernel
theorem dX12_part_68 : decode cX12_part 68 = .ok (.invokevirtual 193, 3) := by decide +kernel
theorem dX12_part_71 : decode cX12_part 71 = .ok (.aload_n 0, 1) := by decide +kernel
theorem dX12_part_72 : decode cX12_part 72 = .ok (.iconst 2, 1) := by decide +kernel
theorem dX12_part_73 : decode cX12_part 73 = .ok (.invokevirtual 211, 3) := by decide +kernel
theorem dX12_part_76 : decode cX12_part 76 = .ok (.aload_n 0, 1) := by decide +kernel
theorem dX12_part_77 : decode cX12_part 77 = .ok (.iload_n 1, 1) := by decide +kernel
theorem dX12_part_78 : decode cX12_part 78 = .ok (.invokevirtual 211, 3) := by decide +kernel
theorem dX12_part_81 : decode cX12_part 81 = .ok (.goto 8, 3) := by decide +kernel
theorem dX12_part_84 : decode cX12_part 84 = .ok (.aload_n 0, 1) := by decide +kernel
theorem dX12_part_85 : decode cX12_part 85 = .ok (.iconst 1, 1) := by decide +kernel
theorem dX12_part_86 : decode cX12_part 86 = .ok (.invokevirtual 193, 3) := by decide +kernel
theorem dX12_part_89 : decode cX12_part 89 = .ok (.aload_n 0, 1) := by decide +kernel
theorem dX12_part_90 : decode cX12_part 90 = .ok (.invokevirtual 186, 3) := by decide +kernel
theorem dX12_part_93 : decode cX12_part 93 = .ok (.ifCond .eq 7, 3) := by decide +kernel
theorem dX12_part_96 : decode cX12_part 96 = .ok (.aload_n 0, 1) := by decide +kernel
theorem dX12_part_97 : decode cX12_part 97 = .ok (.invokevirtual 190, 3) := by decide +kernel
theorem dX12_part_100 : decode cX12_part 100 = .ok (.return_, 1) := by decide +kernel
theorem dX12_deeper_0 : decode cX12_deeper 0 = .ok (.aload_n 0, 1) := by decide +kernel
theorem dX12_deeper_1 : decode cX12_deeper 1 = .ok (.getfield 221, 3) := by decide +kernel
theorem dX12_deeper_4 : decode cX12_deeper 4 = .ok (.bipush 6, 2) := by decide +kernel
theorem dX12_deeper_6 : decode cX12_deeper 6 = .ok (.if_icmp .ge 24, 3) := by decide +kernel
theorem dX12_deeper_9 : decode cX12_deeper 9 = .ok (.aload_n 0, 1) := by decide +kernel
theorem dX12_deeper_10 : decode cX12_deeper 10 = .ok (.dup, 1) := by decide +kernel
theorem dX12_deeper_11 : decode cX12_deeper 11 = .ok (.getfield 221, 3) := by decide +kernel
theorem dX12_deeper_14 : decode cX12_deeper 14 = .ok (.iconst 1, 1) := by decide +kernel
theorem dX12_deeper_15 : decode cX12_deeper 15 = .ok (.iadd, 1) := by decide +kernel
theorem dX12_deeper_16 : decode cX12_deeper 16 = .ok (.putfield 221, 3) := by decide +kernel
theorem dX12_deeper_19 : decode cX12_deeper 19 = .ok (.aload_n 0, 1) := by decide +kernel
theorem dX12_deeper_20 : decode cX12_deeper 20 = .ok (.getfield 80, 3) := by decide +kernel
theorem dX12_deeper_23 : decode cX12_deeper 23 = .ok (.aload_n 0, 1) := by decide +kernel
theorem dX12_deeper_24 : decode cX12_deeper 24 = .ok (.getfield 221, 3) := by decide +kernel
theorem dX12_deeper_27 : decode cX12_deeper 27 = .ok (.iconst 0, 1) := by decide +kernel
theorem dX12_deeper_28 : decode cX12_deeper 28 = .ok (.bastore, 1) := by decide +kernel
theorem dX12_deeper_29 : decode cX12_deeper 29 = .ok (.return_, 1) := by decide +kernel
theorem dX12_deeper_30 : decode cX12_deeper 30 = .ok (.aload_n 0, 1) := by decide +kernel
theorem dX12_deeper_31 : decode cX12_deeper 31 = .ok (.aload_n 0, 1) := by decide +kernel
theorem dX12_deeper_32 : decode cX12_deeper 32 = .ok (.getfield 160, 3) := by decide +kernel
theorem dX12_deeper_35 : decode cX12_deeper 35 = .ok (.iconst 2, 1) := by decide +kernel
theorem dX12_deeper_36 : decode cX12_deeper 36 = .ok (.if_icmp .eq 20, 3) := by decide +kernel
theorem dX12_deeper_39 : decode cX12_deeper 39 = .ok (.aload_n 0, 1) := by decide +kernel
theorem dX12_deeper_40 : decode cX12_deeper 40 = .ok (.getfield 160, 3) := by decide +kernel
theorem dX12_deeper_43 : decode cX12_deeper 43 = .ok (.iconst 1, 1) := by decide +kernel
theorem dX12_deeper_44 : decode cX12_deeper 44 = .ok (.if_icmp .eq 12, 3) := by decide +kernel
theorem dX12_deeper_47 : decode cX12_deeper 47 = .ok (.aload_n 0, 1) := by decide +kernel
theorem dX12_deeper_48 : decode cX12_deeper 48 = .ok (.bipush 40, 2) := by decide +kernel
theorem dX12_deeper_50 : decode cX12_deeper 50 = .ok (.invokevirtual 224, 3) := by decide +kernel
theorem dX12_deeper_53 : decode cX12_deeper 53 = .ok (.ifCond .eq 7, 3) := by decide +kernel
theorem dX12_deeper_56 : decode cX12_deeper 56 = .ok (.iconst 2, 1) := by decide +kernel
theorem dX12_deeper_57 : decode cX12_deeper 57 = .ok (.goto 4, 3) := by decide +kernel
theorem dX12_deeper_60 : decode cX12_deeper 60 = .ok (.iconst 1, 1) := by decide +kernel
theorem dX12_deeper_61 : decode cX12_deeper 61 = .ok (.invokevirtual 193, 3) := by decide +kernel
theorem dX12_deeper_64 : decode cX12_deeper 64 = .ok (.return_, 1) := by decide +kernel
theorem dX12_operand_0 : decode cX12_operand 0 = .ok (.iload_n 1, 1) := by decide +kernel
theorem dX12_operand_1 : decode cX12_operand 1 = .ok (.istore_n 2, 1) := by decide +kernel
theorem dX12_operand_2 : decode cX12_operand 2 = .ok (.iconst 1, 1) := by decide +kernel
theorem dX12_operand_3 : decode cX12_operand 3 = .ok (.istore_n 3, 1) := by decide +kernel
theorem dX12_operand_4 : decode cX12_operand 4 = .ok (.iload_n 3, 1) := by decide +kernel
theorem dX12_operand_5 : decode cX12_operand 5 = .ok (.ifCond .eq 115, 3) := by decide +kernel
theorem dX12_operand_8 : decode cX12_operand 8 = .ok (.aload_n 0, 1) := by decide +kernel
theorem dX12_operand_9 : decode cX12_operand 9 = .ok (.invokevirtual 186, 3) := by decide +kernel
theorem dX12_operand_12 : decode cX12_operand 12 = .ok (.ifCond .eq 108, 3) := by decide +kernel
theorem dX12_operand_15 : decode cX12_operand 15 = .ok (.iconst 0, 1) := by decide +kernel
theorem dX12_operand_16 : decode cX12_operand 16 = .ok (.istore 4, 2) := by decide +kernel
theorem dX12_operand_18 : decode cX12_operand 18 = .ok (.aload_n 0, 1) := by decide +kernel
theorem dX12_operand_19 : decode cX12_operand 19 = .ok (.invokevirtual 186, 3) := by decide +kernel
theorem dX12_operand_22 : decode cX12_operand 22 = .ok (.ifCond .eq 53, 3) := by decide +kernel
theorem dX12_operand_25 : decode cX12_operand 25 = .ok (.iload_n 2, 1) := by decide +kernel
theorem dX12_operand_26 : decode cX12_operand 26 = .ok (.ifCond .eq 49, 3) := by decide +kernel
theorem dX12_operand_29 : decode cX12_operand 29 = .ok (.aload_n 0, 1) := by decide +kernel
theorem dX12_operand_30 : decode cX12_operand 30 = .ok (.invokevirtual 214, 3) := by decide +kernel
theorem dX12_operand_33 : decode cX12_operand 33 = .ok (.bipush 34, 2) := by decide +kernel
theorem dX12_operand_35 : decode cX12_operand 35 = .ok (.if_icmp .ne 40, 3) := by decide +kernel
theorem dX12_operand_38 : decode cX12_operand 38 = .ok (.iload 4, 2) := by decide +kernel
theorem dX12_operand_40 : decode cX12_operand 40 = .ok (.bipush 6, 2) := by decide +kernel
theorem dX12_operand_42 : decode cX12_operand 42 = .ok (.if_icmp .ne 8, 3) := by decide +kernel
theorem dX12_operand_45 : decode cX12_operand 45 = .ok (.aload_n 0, 1) := by decide +kernel
theorem dX12_operand_46 : decode cX12_operand 46 = .ok (.iconst 2, 1) := by decide +kernel
theorem dX12_operand_47 : decode cX12_operand 47 = .ok (.invokevirtual 193, 3) := by decide +kernel
theorem dX12_operand_50 : decode cX12_operand 50 = .ok (.iinc 4 1, 3) := by decide +kernel
theorem dX12_operand_53 : decode cX12_operand 53 = .ok (.aload_n 0, 1) := by decide +kernel
theorem dX12_operand_54 : decode cX12_operand 54 = .ok (.invokevirtual 186, 3) := by decide +kernel
theorem dX12_operand_57 : decode cX12_operand 57 = .ok (.ifCond .ne 6, 3) := by decide +kernel
theorem dX12_operand_60 : decode cX12_operand 60 = .ok (.goto (-42), 3) := by decide +kernel
theorem dX12_operand_63 : decode cX12_operand 63 = .ok (.aload_n 0, 1) := by decide +kernel
theorem dX12_operand_64 : decode cX12_operand 64 = .ok (.iconst 3, 1) := by decide +kernel
theorem dX12_operand_65 : decode cX12_operand 65 = .ok (.invokevirtual 227, 3) := by decide +kernel
theorem dX12_operand_68 : decode cX12_operand 68 = .ok (.aload_n 0, 1) := by decide +kernel
theorem dX12_operand_69 : decode cX12_operand 69 = .ok (.invokevirtual 190, 3) := by decide +kernel
theorem dX12_operand_72 : decode cX12_operand 72 = .ok (.goto (-54), 3) := by decide +kernel
theorem dX12_operand_75 : decode cX12_operand 75 = .ok (.aload_n 0, 1) := by decide +kernel
theorem dX12_operand_76 : decode cX12_operand 76 = .ok (.invokevirtual 186, 3) := by decide +kernel
theorem dX12_operand_79 : decode cX12_operand 79 = .ok (.ifCond .eq 16, 3) := by decide +kernel
theorem dX12_operand_82 : decode cX12_operand 82 = .ok (.aload_n 0, 1) := by decide +kernel
theorem dX12_operand_83 : decode cX12_operand 83 = .ok (.bipush 40, 2) := by decide +kernel
theorem dX12_operand_85 : decode cX12_operand 85 = .ok (.invokevirtual 224, 3) := by decide +kernel
theorem dX12_operand_88 : decode cX12_operand 88 = .ok (.ifCond .eq 7, 3) := by decide +kernel
theorem dX12_operand_91 : decode cX12_operand 91 = .ok (.iconst 1, 1) := by decide +kernel
theorem dX12_operand_92 : decode cX12_operand 92 = .ok (.goto 4, 3) := by decide +kernel
theorem dX12_operand_95 : decode cX12_operand 95 = .ok (.iconst 0, 1) := by decide +kernel
theorem dX12_operand_96 : decode cX12_operand 96 = .ok (.istore_n 3, 1) := by decide +kernel
theorem dX12_operand_97 : decode cX12_operand 97 = .ok (.iload_n 3, 1) := by decide +kernel
theorem dX12_operand_98 : decode cX12_operand 98 = .ok (.ifCond .eq 19, 3) := by decide +kernel
theorem dX12_operand_101 : decode cX12_operand 101 = .ok (.aload_n 0, 1) := by decide +kernel
theorem dX12_operand_102 : decode cX12_operand 102 = .ok (.bipush 14, 2) := by decide +kernel
theorem dX12_operand_104 : decode cX12_operand 104 = .ok (.invokevirtual 227, 3) := by decide +kernel
theorem dX12_operand_107 : decode cX12_operand 107 = .ok (.aload_n 0, 1) := by decide +kernel
theorem dX12_operand_108 : decode cX12_operand 108 = .ok (.invokevirtual 190, 3) := by decide +kernel
theorem dX12_operand_111 : decode cX12_operand 111 = .ok (.aload_n 0, 1) := by decide +kernel
theorem dX12_operand_112 : decode cX12_operand 112 = .ok (.invokevirtual 230, 3) := by decide +kernel
theorem dX12_operand_115 : decode cX12_operand 115 = .ok (.iconst 1, 1) := by decide +kernel
theorem dX12_operand_116 : decode cX12_operand 116 = .ok (.istore_n 2, 1) := by decide +kernel
theorem dX12_operand_117 : decode cX12_operand 117 = .ok (.goto (-113), 3) := by decide +kernel
theorem dX12_operand_120 : decode cX12_operand 120 = .ok (.aload_n 0, 1) := by decide +kernel
theorem dX12_operand_121 : decode cX12_operand 121 = .ok (.invokevirtual 233, 3) := by decide +kernel
theorem dX12_operand_124 : decode cX12_operand 124 = .ok (.return_, 1) := by decide +kernel
theorem dX12_isOpened_0 : decode cX12_isOpened 0 = .ok (.aload_n 0, 1) := by decide +kernel
theorem dX12_isOpened_1 : decode cX12_isOpened 1 = .ok (.getfield 203, 3) := by decide +kernel
theorem dX12_isOpened_4 : decode cX12_isOpened 4 = .ok (.iconst 1, 1) := by decide +kernel
theorem dX12_isOpened_5 : decode cX12_isOpened 5 = .ok (.isub, 1) := by decide +kernel
theorem dX12_isOpened_6 : decode cX12_isOpened 6 = .ok (.istore_n 1, 1) := by decide +kernel
theorem dX12_isOpened_7 : decode cX12_isOpened 7 = .ok (.iload_n 1, 1) := by decide +kernel
theorem dX12_isOpened_8 : decode cX12_isOpened 8 = .ok (.ifCond .lt 21, 3) := by decide +kernel
theorem dX12_isOpened_11 : decode cX12_isOpened 11 = .ok (.aload_n 0, 1) := by decide +kernel
theorem dX12_isOpened_12 : decode cX12_isOpened 12 = .ok (.getfield 77, 3) := by decide +kernel
theorem dX12_isOpened_15 : decode cX12_isOpened 15 = .ok (.iload_n 1, 1) := by decide +kernel
theorem dX12_isOpened_16 : decode cX12_isOpened 16 = .ok (.iaload, 1) := by decide +kernel
theorem dX12_isOpened_17 : decode cX12_isOpened 17 = .ok (.invokestatic 206, 3) := by decide +kernel
theorem dX12_isOpened_20 : decode cX12_isOpened 20 = .ok (.ifCond .ne 9, 3) := by decide +kernel
theorem dX12_isOpened_23 : decode cX12_isOpened 23 = .ok (.iinc 1 (-1), 3) := by decide +kernel
theorem dX12_isOpened_26 : decode cX12_isOpened 26 = .ok (.goto (-19), 3) := by decide +kernel
theorem dX12_isOpened_29 : decode cX12_isOpened 29 = .ok (.iload_n 1, 1) := by decide +kernel
theorem dX12_isOpened_30 : decode cX12_isOpened 30 = .ok (.ifCond .lt 7, 3) := by decide +kernel
theorem dX12_isOpened_33 : decode cX12_isOpened 33 = .ok (.iconst 1, 1) := by decide +kernel
theorem dX12_isOpened_34 : decode cX12_isOpened 34 = .ok (.goto 4, 3) := by decide +kernel
theorem dX12_isOpened_37 : decode cX12_isOpened 37 = .ok (.iconst 0, 1) := by decide +kernel
theorem dX12_isOpened_38 : decode cX12_isOpened 38 = .ok (.ireturn, 1) := by decide +kernel
theorem dX12_closes_0 : decode cX12_closes 0 = .ok (.aload_n 0, 1) := by decide +kernel
theorem dX12_closes_1 : decode cX12_closes 1 = .ok (.iconst 0, 1) := by decide +kernel
theorem dX12_closes_2 : decode cX12_closes 2 = .ok (.invokevirtual 236, 3) := by decide +kernel
theorem dX12_closes_5 : decode cX12_closes 5 = .ok (.aload_n 0, 1) := by decide +kernel
theorem dX12_closes_6 : decode cX12_closes 6 = .ok (.dup, 1) := by decide +kernel
theorem dX12_closes_7 : decode cX12_closes 7 = .ok (.getfield 203, 3) := by decide +kernel
theorem dX12_closes_10 : decode cX12_closes 10 = .ok (.iconst 1, 1) := by decide +kernel
theorem dX12_closes_11 : decode cX12_closes 11 = .ok (.isub, 1) := by decide +kernel
theorem dX12_closes_12 : decode cX12_closes 12 = .ok (.putfield 203, 3) := by decide +kernel
theorem dX12_closes_15 : decode cX12_closes 15 = .ok (.aload_n 0, 1) := by decide +kernel
theorem dX12_closes_16 : decode cX12_closes 16 = .ok (.dup, 1) := by decide +kernel
theorem dX12_closes_17 : decode cX12_closes 17 = .ok (.getfield 221, 3) := by decide +kernel
theorem dX12_closes_20 : decode cX12_closes 20 = .ok (.iconst 1, 1) := by decide +kernel
theorem dX12_closes_21 : decode cX12_closes 21 = .ok (.isub, 1) := by decide +kernel
theorem dX12_closes_22 : decode cX12_closes 22 = .ok (.putfield 221, 3) := by decide +kernel
theorem dX12_closes_25 : decode cX12_closes 25 = .ok (.aload_n 0, 1) := by decide +kernel
theorem dX12_closes_26 : decode cX12_closes 26 = .ok (.invokevirtual 190, 3) := by decide +kernel
theorem dX12_closes_29 : decode cX12_closes 29 = .ok (.return_, 1) := by decide +kernel
theorem dX12_expression_0 : decode cX12_expression 0 = .ok (.aload_n 0, 1) := by decide +kernel
theorem dX12_expression_1 : decode cX12_expression 1 = .ok (.invokevirtual 186, 3) := by decide +kernel
theorem dX12_expression_4 : decode cX12_expression 4 = .ok (.ifCond .ne 4, 3) := by decide +kernel
theorem dX12_expression_7 : decode cX12_expression 7 = .ok (.return_, 1) := by decide +kernel
theorem dX12_expression_8 : decode cX12_expression 8 = .ok (.aload_n 0, 1) := by decide +kernel
theorem dX12_expression_9 : decode cX12_expression 9 = .ok (.iconst 0, 1) := by decide +kernel
theorem dX12_expression_10 : decode cX12_expression 10 = .ok (.putfield 203, 3) := by decide +kernel
theorem dX12_expression_13 : decode cX12_expression 13 = .ok (.aload_n 0, 1) := by decide +kernel
theorem dX12_expression_14 : decode cX12_expression 14 = .ok (.iconst 0, 1) := by decide +kernel
theorem dX12_expression_15 : decode cX12_expression 15 = .ok (.putfield 221, 3) := by decide +kernel
theorem dX12_expression_18 : decode cX12_expression 18 = .ok (.aload_n 0, 1) := by decide +kernel
theorem dX12_expression_19 : decode cX12_expression 19 = .ok (.invokevirtual 230, 3) := by decide +kernel
theorem dX12_expression_22 : decode cX12_expression 22 = .ok (.aload_n 0, 1) := by decide +kernel
theorem dX12_expression_23 : decode cX12_expression 23 = .ok (.iconst 1, 1) := by decide +kernel
theorem dX12_expression_24 : decode cX12_expression 24 = .ok (.invokevirtual 239, 3) := by decide +kernel
theorem dX12_expression_27 : decode cX12_expression 27 = .ok (.iconst 1, 1) := by decide +kernel
theorem dX12_expression_28 : decode cX12_expression 28 = .ok (.istore_n 1, 1) := by decide +kernel
theorem dX12_expression_29 : decode cX12_expression 29 = .ok (.iload_n 1, 1) := by decide +kernel
theorem dX12_expression_30 : decode cX12_expression 30 = .ok (.ifCond .eq 295, 3) := by decide +kernel
theorem dX12_expression_33 : decode cX12_expression 33 = .ok (.aload_n 0, 1) := by decide +kernel
theorem dX12_expression_34 : decode cX12_expression 34 = .ok (.invokevirtual 186, 3) := by decide +kernel
theorem dX12_expression_37 : decode cX12_expression 37 = .ok (.ifCond .eq 288, 3) := by decide +kernel
theorem dX12_expression_40 : decode cX12_expression 40 = .ok (.aload_n 0, 1) := by decide +kernel
theorem dX12_expression_41 : decode cX12_expression 41 = .ok (.invokevirtual 214, 3) := by decide +kernel
theorem dX12_expression_44 : decode cX12_expression 44 = .ok (.istore_n 2, 1) := by decide +kernel
theorem dX12_expression_45 : decode cX12_expression 45 = .ok (.iload_n 2, 1) := by decide +kernel
theorem dX12_expression_46 : decode cX12_expression 46 = .ok (.bipush 32, 2) := by decide +kernel
theorem dX12_expression_48 : decode cX12_expression 48 = .ok (.if_icmp .eq 9, 3) := by decide +kernel
theorem dX12_expression_51 : decode cX12_expression 51 = .ok (.iload_n 2, 1) := by decide +kernel
theorem dX12_expression_52 : decode cX12_expression 52 = .ok (.bipush 33, 2) := by decide +kernel
theorem dX12_expression_54 : decode cX12_expression 54 = .ok (.if_icmp .ne 55, 3) := by decide +kernel
theorem dX12_expression_57 : decode cX12_expression 57 = .ok (.aload_n 0, 1) := by decide +kernel
theorem dX12_expression_58 : decode cX12_expression 58 = .ok (.iload_n 2, 1) := by decide +kernel
theorem dX12_expression_59 : decode cX12_expression 59 = .ok (.bipush 32, 2) := by decide +kernel
theorem dX12_expression_61 : decode cX12_expression 61 = .ok (.if_icmp .ne 7, 3) := by decide +kernel
theorem dX12_expression_64 : decode cX12_expression 64 = .ok (.iconst 2, 1) := by decide +kernel
theorem dX12_expression_65 : decode cX12_expression 65 = .ok (.goto 4, 3) := by decide +kernel
theorem dX12_expression_68 : decode cX12_expression 68 = .ok (.iconst 1, 1) := by decide +kernel
theorem dX12_expression_69 : decode cX12_expression 69 = .ok (.invokevirtual 236, 3) := by decide +kernel
theorem dX12_expression_72 : decode cX12_expression 72 = .ok (.aload_n 0, 1) := by decide +kernel
theorem dX12_expression_73 : decode cX12_expression 73 = .ok (.iload_n 2, 1) := by decide +kernel
theorem dX12_expression_74 : decode cX12_expression 74 = .ok (.bipush 32, 2) := by decide +kernel
theorem dX12_expression_76 : decode cX12_expression 76 = .ok (.if_icmp .ne 7, 3) := by decide +kernel
theorem dX12_expression_79 : decode cX12_expression 79 = .ok (.iconst 4, 1) := by decide +kernel
theorem dX12_expression_80 : decode cX12_expression 80 = .ok (.goto 4, 3) := by decide +kernel
theorem dX12_expression_83 : decode cX12_expression 83 = .ok (.iconst 5, 1) := by decide +kernel
theorem dX12_expression_84 : decode cX12_expression 84 = .ok (.invokevirtual 227, 3) := by decide +kernel
theorem dX12_expression_87 : decode cX12_expression 87 = .ok (.aload_n 0, 1) := by decide +kernel
theorem dX12_expression_88 : decode cX12_expression 88 = .ok (.getfield 80, 3) := by decide +kernel
theorem dX12_expression_91 : decode cX12_expression 91 = .ok (.aload_n 0, 1) := by decide +kernel
theorem dX12_expression_92 : decode cX12_expression 92 = .ok (.getfield 221, 3) := by decide +kernel
theorem dX12_expression_95 : decode cX12_expression 95 = .ok (.iconst 0, 1) := by decide +kernel
theorem dX12_expression_96 : decode cX12_expression 96 = .ok (.bastore, 1) := by decide +kernel
theorem dX12_expression_97 : decode cX12_expression 97 = .ok (.aload_n 0, 1) := by decide +kernel
theorem dX12_expression_98 : decode cX12_expression 98 = .ok (.invokevirtual 190, 3) := by decide +kernel
theorem dX12_expression_101 : decode cX12_expression 101 = .ok (.aload_n 0, 1) := by decide +kernel
theorem dX12_expression_102 : decode cX12_expression 102 = .ok (.iconst 1, 1) := by decide +kernel
theorem dX12_expression_103 : decode cX12_expression 103 = .ok (.invokevirtual 239, 3) := by decide +kernel
theorem dX12_expression_106 : decode cX12_expression 106 = .ok (.goto 216, 3) := by decide +kernel
theorem dX12_expression_109 : decode cX12_expression 109 = .ok (.aload_n 0, 1) := by decide +kernel
theorem dX12_expression_110 : decode cX12_expression 110 = .ok (.bipush 60, 2) := by decide +kernel
theorem dX12_expression_112 : decode cX12_expression 112 = .ok (.invokevirtual 224, 3) := by decide +kernel
theorem dX12_expression_115 : decode cX12_expression 115 = .ok (.ifCond .ne 12, 3) := by decide +kernel
theorem dX12_expression_118 : decode cX12_expression 118 = .ok (.aload_n 0, 1) := by decide +kernel
theorem dX12_expression_119 : decode cX12_expression 119 = .ok (.bipush 61, 2) := by decide +kernel
theorem dX12_expression_121 : decode cX12_expression 121 = .ok (.invokevirtual 224, 3) := by decide +kernel
theorem dX12_expression_124 : decode cX12_expression 124 = .ok (.ifCond .eq 62, 3) := by decide +kernel
theorem dX12_expression_127 : decode cX12_expression 127 = .ok (.aload_n 0, 1) := by decide +kernel
theorem dX12_expression_128 : decode cX12_expression 128 = .ok (.getfield 80, 3) := by decide +kernel
theorem dX12_expression_131 : decode cX12_expression 131 = .ok (.aload_n 0, 1) := by decide +kernel
theorem dX12_expression_132 : decode cX12_expression 132 = .ok (.getfield 221, 3) := by decide +kernel
theorem dX12_expression_135 : decode cX12_expression 135 = .ok (.baload, 1) := by decide +kernel
theorem dX12_expression_136 : decode cX12_expression 136 = .ok (.ifCond .ne 50, 3) := by decide +kernel
theorem dX12_expression_139 : decode cX12_expression 139 = .ok (.aload_n 0, 1) := by decide +kernel
theorem dX12_expression_140 : decode cX12_expression 140 = .ok (.iconst 4, 1) := by decide +kernel
theorem dX12_expression_141 : decode cX12_expression 141 = .ok (.invokevirtual 236, 3) := by decide +kernel
theorem dX12_expression_144 : decode cX12_expression 144 = .ok (.aload_n 0, 1) := by decide +kernel
theorem dX12_expression_145 : decode cX12_expression 145 = .ok (.aload_n 0, 1) := by decide +kernel
theorem dX12_expression_146 : decode cX12_expression 146 = .ok (.bipush 60, 2) := by decide +kernel
theorem dX12_expression_148 : decode cX12_expression 148 = .ok (.invokevirtual 224, 3) := by decide +kernel
theorem dX12_expression_151 : decode cX12_expression 151 = .ok (.ifCond .eq 8, 3) := by decide +kernel
theorem dX12_expression_154 : decode cX12_expression 154 = .ok (.bipush 6, 2) := by decide +kernel
theorem dX12_expression_156 : decode cX12_expression 156 = .ok (.goto 5, 3) := by decide +kernel
theorem dX12_expression_159 : decode cX12_expression 159 = .ok (.bipush 7, 2) := by decide +kernel
theorem dX12_expression_161 : decode cX12_expression 161 = .ok (.invokevirtual 227, 3) := by decide +kernel
theorem dX12_expression_164 : decode cX12_expression 164 = .ok (.aload_n 0, 1) := by decide +kernel
theorem dX12_expression_165 : decode cX12_expression 165 = .ok (.getfield 80, 3) := by decide +kernel
theorem dX12_expression_168 : decode cX12_expression 168 = .ok (.aload_n 0, 1) := by decide +kernel
theorem dX12_expression_169 : decode cX12_expression 169 = .ok (.getfield 221, 3) := by decide +kernel
theorem dX12_expression_172 : decode cX12_expression 172 = .ok (.iconst 1, 1) := by decide +kernel
theorem dX12_expression_173 : decode cX12_expression 173 = .ok (.bastore, 1) := by decide +kernel
theorem dX12_expression_174 : decode cX12_expression 174 = .ok (.aload_n 0, 1) := by decide +kernel
theorem dX12_expression_175 : decode cX12_expression 175 = .ok (.invokevirtual 190, 3) := by decide +kernel
theorem dX12_expression_178 : decode cX12_expression 178 = .ok (.aload_n 0, 1) := by decide +kernel
theorem dX12_expression_179 : decode cX12_expression 179 = .ok (.iconst 0, 1) := by decide +kernel
theorem dX12_expression_180 : decode cX12_expression 180 = .ok (.invokevirtual 239, 3) := by decide +kernel
theorem dX12_expression_183 : decode cX12_expression 183 = .ok (.goto 139, 3) := by decide +kernel
theorem dX12_expression_186 : decode cX12_expression 186 = .ok (.aload_n 0, 1) := by decide +kernel
theorem dX12_expression_187 : decode cX12_expression 187 = .ok (.bipush 43, 2) := by decide +kernel
theorem dX12_expression_189 : decode cX12_expression 189 = .ok (.invokevirtual 224, 3) := by decide +kernel
theorem dX12_expression_192 : decode cX12_expression 192 = .ok (.ifCond .ne 12, 3) := by decide +kernel
theorem dX12_expression_195 : decode cX12_expression 195 = .ok (.aload_n 0, 1) := by decide +kernel
theorem dX12_expression_196 : decode cX12_expression 196 = .ok (.bipush 45, 2) := by decide +kernel
theorem dX12_expression_198 : decode cX12_expression 198 = .ok (.invokevirtual 224, 3) := by decide +kernel
theorem dX12_expression_201 : decode cX12_expression 201 = .ok (.ifCond .eq 40, 3) := by decide +kernel
theorem dX12_expression_204 : decode cX12_expression 204 = .ok (.aload_n 0, 1) := by decide +kernel
theorem dX12_expression_205 : decode cX12_expression 205 = .ok (.iconst 5, 1) := by decide +kernel
theorem dX12_expression_206 : decode cX12_expression 206 = .ok (.invokevirtual 236, 3) := by decide +kernel
theorem dX12_expression_209 : decode cX12_expression 209 = .ok (.aload_n 0, 1) := by decide +kernel
theorem dX12_expression_210 : decode cX12_expression 210 = .ok (.aload_n 0, 1) := by decide +kernel
theorem dX12_expression_211 : decode cX12_expression 211 = .ok (.bipush 43, 2) := by decide +kernel
theorem dX12_expression_213 : decode cX12_expression 213 = .ok (.invokevirtual 224, 3) := by decide +kernel
theorem dX12_expression_216 : decode cX12_expression 216 = .ok (.ifCond .eq 8, 3) := by decide +kernel
theorem dX12_expression_219 : decode cX12_expression 219 = .ok (.bipush 8, 2) := by decide +kernel
theorem dX12_expression_221 : decode cX12_expression 221 = .ok (.goto 5, 3) := by decide +kernel
theorem dX12_expression_224 : decode cX12_expression 224 = .ok (.bipush 9, 2) := by decide +kernel
theorem dX12_expression_226 : decode cX12_expression 226 = .ok (.invokevirtual 227, 3) := by decide +kernel
theorem dX12_expression_229 : decode cX12_expression 229 = .ok (.aload_n 0, 1) := by decide +kernel
theorem dX12_expression_230 : decode cX12_expression 230 = .ok (.invokevirtual 190, 3) := by decide +kernel
theorem dX12_expression_233 : decode cX12_expression 233 = .ok (.aload_n 0, 1) := by decide +kernel
theorem dX12_expression_234 : decode cX12_expression 234 = .ok (.iconst 0, 1) := by decide +kernel
theorem dX12_expression_235 : decode cX12_expression 235 = .ok (.invokevirtual 239, 3) := by decide +kernel
theorem dX12_expression_238 : decode cX12_expression 238 = .ok (.goto 84, 3) := by decide +kernel
theorem dX12_expression_241 : decode cX12_expression 241 = .ok (.aload_n 0, 1) := by decide +kernel
theorem dX12_expression_242 : decode cX12_expression 242 = .ok (.bipush 42, 2) := by decide +kernel
theorem dX12_expression_244 : decode cX12_expression 244 = .ok (.invokevirtual 224, 3) := by decide +kernel
theorem dX12_expression_247 : decode cX12_expression 247 = .ok (.ifCond .ne 12, 3) := by decide +kernel
theorem dX12_expression_250 : decode cX12_expression 250 = .ok (.aload_n 0, 1) := by decide +kernel
theorem dX12_expression_251 : decode cX12_expression 251 = .ok (.bipush 47, 2) := by decide +kernel
theorem dX12_expression_253 : decode cX12_expression 253 = .ok (.invokevirtual 224, 3) := by decide +kernel
theorem dX12_expression_256 : decode cX12_expression 256 = .ok (.ifCond .eq 41, 3) := by decide +kernel
theorem dX12_expression_259 : decode cX12_expression 259 = .ok (.aload_n 0, 1) := by decide +kernel
theorem dX12_expression_260 : decode cX12_expression 260 = .ok (.bipush 6, 2) := by decide +kernel
theorem dX12_expression_262 : decode cX12_expression 262 = .ok (.invokevirtual 236, 3) := by decide +kernel
theorem dX12_expression_265 : decode cX12_expression 265 = .ok (.aload_n 0, 1) := by decide +kernel
theorem dX12_expression_266 : decode cX12_expression 266 = .ok (.aload_n 0, 1) := by decide +kernel
theorem dX12_expression_267 : decode cX12_expression 267 = .ok (.bipush 42, 2) := by decide +kernel
theorem dX12_expression_269 : decode cX12_expression 269 = .ok (.invokevirtual 224, 3) := by decide +kernel
theorem dX12_expression_272 : decode cX12_expression 272 = .ok (.ifCond .eq 8, 3) := by decide +kernel
theorem dX12_expression_275 : decode cX12_expression 275 = .ok (.bipush 10, 2) := by decide +kernel
theorem dX12_expression_277 : decode cX12_expression 277 = .ok (.goto 5, 3) := by decide +kernel
theorem dX12_expression_280 : decode cX12_expression 280 = .ok (.bipush 11, 2) := by decide +kernel
theorem dX12_expression_282 : decode cX12_expression 282 = .ok (.invokevirtual 227, 3) := by decide +kernel
theorem dX12_expression_285 : decode cX12_expression 285 = .ok (.aload_n 0, 1) := by decide +kernel
theorem dX12_expression_286 : decode cX12_expression 286 = .ok (.invokevirtual 190, 3) := by decide +kernel
theorem dX12_expression_289 : decode cX12_expression 289 = .ok (.aload_n 0, 1) := by decide +kernel
theorem dX12_expression_290 : decode cX12_expression 290 = .ok (.iconst 0, 1) := by decide +kernel
theorem dX12_expression_291 : decode cX12_expression 291 = .ok (.invokevirtual 239, 3) := by decide +kernel
theorem dX12_expression_294 : decode cX12_expression 294 = .ok (.goto 28, 3) := by decide +kernel
theorem dX12_expression_297 : decode cX12_expression 297 = .ok (.aload_n 0, 1) := by decide +kernel
theorem dX12_expression_298 : decode cX12_expression 298 = .ok (.bipush 41, 2) := by decide +kernel
theorem dX12_expression_300 : decode cX12_expression 300 = .ok (.invokevirtual 224, 3) := by decide +kernel
theorem dX12_expression_303 : decode cX12_expression 303 = .ok (.ifCond .eq 17, 3) := by decide +kernel
theorem dX12_expression_306 : decode cX12_expression 306 = .ok (.aload_n 0, 1) := by decide +kernel
theorem dX12_expression_307 : decode cX12_expression 307 = .ok (.invokevirtual 243, 3) := by decide +kernel
theorem dX12_expression_310 : decode cX12_expression 310 = .ok (.ifCond .eq 10, 3) := by decide +kernel
theorem dX12_expression_313 : decode cX12_expression 313 = .ok (.aload_n 0, 1) := by decide +kernel
theorem dX12_expression_314 : decode cX12_expression 314 = .ok (.invokevirtual 246, 3) := by decide +kernel
theorem dX12_expression_317 : decode cX12_expression 317 = .ok (.goto 5, 3) := by decide +kernel
theorem dX12_expression_320 : decode cX12_expression 320 = .ok (.iconst 0, 1) := by decide +kernel
theorem dX12_expression_321 : decode cX12_expression 321 = .ok (.istore_n 1, 1) := by decide +kernel
theorem dX12_expression_322 : decode cX12_expression 322 = .ok (.goto (-293), 3) := by decide +kernel
theorem dX12_expression_325 : decode cX12_expression 325 = .ok (.aload_n 0, 1) := by decide +kernel
theorem dX12_expression_326 : decode cX12_expression 326 = .ok (.invokevirtual 186, 3) := by decide +kernel
theorem dX12_expression_329 : decode cX12_expression 329 = .ok (.ifCond .eq 16, 3) := by decide +kernel
theorem dX12_expression_332 : decode cX12_expression 332 = .ok (.aload_n 0, 1) := by decide +kernel
theorem dX12_expression_333 : decode cX12_expression 333 = .ok (.getfield 221, 3) := by decide +kernel
theorem dX12_expression_336 : decode cX12_expression 336 = .ok (.iconst 1, 1) := by decide +kernel
theorem dX12_expression_337 : decode cX12_expression 337 = .ok (.if_icmp .le 8, 3) := by decide +kernel
theorem dX12_expression_340 : decode cX12_expression 340 = .ok (.aload_n 0, 1) := by decide +kernel
theorem dX12_expression_341 : decode cX12_expression 341 = .ok (.iconst 1, 1) := by decide +kernel
theorem dX12_expression_342 : decode cX12_expression 342 = .ok (.invokevirtual 193, 3) := by decide +kernel
theorem dX12_expression_345 : decode cX12_expression 345 = .ok (.aload_n 0, 1) := by decide +kernel
theorem dX12_expression_346 : decode cX12_expression 346 = .ok (.iconst 0, 1) := by decide +kernel
theorem dX12_expression_347 : decode cX12_expression 347 = .ok (.invokevirtual 236, 3) := by decide +kernel
theorem dX12_expression_350 : decode cX12_expression 350 = .ok (.aload_n 0, 1) := by decide +kernel
theorem dX12_expression_351 : decode cX12_expression 351 = .ok (.iconst 0, 1) := by decide +kernel
theorem dX12_expression_352 : decode cX12_expression 352 = .ok (.invokevirtual 211, 3) := by decide +kernel
theorem dX12_expression_355 : decode cX12_expression 355 = .ok (.return_, 1) := by decide +kernel
theorem dX12_begins_0 : decode cX12_begins 0 = .ok (.aload_n 0, 1) := by decide +kernel
theorem dX12_begins_1 : decode cX12_begins 1 = .ok (.getfield 249, 3) := by decide +kernel
theorem dX12_begins_4 : decode cX12_begins 4 = .ok (.iload_n 1, 1) := by decide +kernel
theorem dX12_begins_5 : decode cX12_begins 5 = .ok (.lshr, 1) := by decide +kernel
theorem dX12_begins_6 : decode cX12_begins 6 = .ok (.lconst 1, 1) := by decide +kernel
theorem dX12_begins_7 : decode cX12_begins 7 = .ok (.land, 1) := by decide +kernel
theorem dX12_begins_8 : decode cX12_begins 8 = .ok (.lconst 1, 1) := by decide +kernel
theorem dX12_begins_9 : decode cX12_begins 9 = .ok (.lcmp, 1) := by decide +kernel
theorem dX12_begins_10 : decode cX12_begins 10 = .ok (.ifCond .ne 8, 3) := by decide +kernel
theorem dX12_begins_13 : decode cX12_begins 13 = .ok (.aload_n 0, 1) := by decide +kernel
theorem dX12_begins_14 : decode cX12_begins 14 = .ok (.iconst 5, 1) := by decide +kernel
theorem dX12_begins_15 : decode cX12_begins 15 = .ok (.invokevirtual 193, 3) := by decide +kernel
theorem dX12_begins_18 : decode cX12_begins 18 = .ok (.aload_n 0, 1) := by decide +kernel
theorem dX12_begins_19 : decode cX12_begins 19 = .ok (.dup, 1) := by decide +kernel
theorem dX12_begins_20 : decode cX12_begins 20 = .ok (.getfield 249, 3) := by decide +kernel
theorem dX12_begins_23 : decode cX12_begins 23 = .ok (.lconst 1, 1) := by decide +kernel
theorem dX12_begins_24 : decode cX12_begins 24 = .ok (.iload_n 1, 1) := by decide +kernel
theorem dX12_begins_25 : decode cX12_begins 25 = .ok (.lshl, 1) := by decide +kernel
theorem dX12_begins_26 : decode cX12_begins 26 = .ok (.lor, 1) := by decide +kernel
theorem dX12_begins_27 : decode cX12_begins 27 = .ok (.putfield 249, 3) := by decide +kernel
theorem dX12_begins_30 : decode cX12_begins 30 = .ok (.aload_n 0, 1) := by decide +kernel
theorem dX12_begins_31 : decode cX12_begins 31 = .ok (.invokevirtual 186, 3) := by decide +kernel
theorem dX12_begins_34 : decode cX12_begins 34 = .ok (.ifCond .eq 7, 3) := by decide +kernel
theorem dX12_begins_37 : decode cX12_begins 37 = .ok (.aload_n 0, 1) := by decide +kernel
theorem dX12_begins_38 : decode cX12_begins 38 = .ok (.invokevirtual 190, 3) := by decide +kernel
theorem dX12_begins_41 : decode cX12_begins 41 = .ok (.aload_n 0, 1) := by decide +kernel
theorem dX12_begins_42 : decode cX12_begins 42 = .ok (.invokevirtual 186, 3) := by decide +kernel
theorem dX12_begins_45 : decode cX12_begins 45 = .ok (.ireturn, 1) := by decide +kernel
theorem dX12_readsHole_0 : decode cX12_readsHole 0 = .ok (.aload_n 0, 1) := by decide +kernel
theorem dX12_readsHole_1 : decode cX12_readsHole 1 = .ok (.getfield 252, 3) := by decide +kernel
theorem dX12_readsHole_4 : decode cX12_readsHole 4 = .ok (.bipush 6, 2) := by decide +kernel
theorem dX12_readsHole_6 : decode cX12_readsHole 6 = .ok (.if_icmp .ne 8, 3) := by decide +kernel
theorem dX12_readsHole_9 : decode cX12_readsHole 9 = .ok (.aload_n 0, 1) := by decide +kernel
theorem dX12_readsHole_10 : decode cX12_readsHole 10 = .ok (.iconst 2, 1) := by decide +kernel
theorem dX12_readsHole_11 : decode cX12_readsHole 11 = .ok (.invokevirtual 193, 3) := by decide +kernel
theorem dX12_readsHole_14 : decode cX12_readsHole 14 = .ok (.aload_n 0, 1) := by decide +kernel
theorem dX12_readsHole_15 : decode cX12_readsHole 15 = .ok (.invokevirtual 186, 3) := by decide +kernel
theorem dX12_readsHole_18 : decode cX12_readsHole 18 = .ok (.ifCond .ne 4, 3) := by decide +kernel
theorem dX12_readsHole_21 : decode cX12_readsHole 21 = .ok (.return_, 1) := by decide +kernel
theorem dX12_readsHole_22 : decode cX12_readsHole 22 = .ok (.aload_n 0, 1) := by decide +kernel
theorem dX12_readsHole_23 : decode cX12_readsHole 23 = .ok (.invokevirtual 190, 3) := by decide +kernel
theorem dX12_readsHole_26 : decode cX12_readsHole 26 = .ok (.aload_n 0, 1) := by decide +kernel
theorem dX12_readsHole_27 : decode cX12_readsHole 27 = .ok (.iconst 0, 1) := by decide +kernel
theorem dX12_readsHole_28 : decode cX12_readsHole 28 = .ok (.aload_n 0, 1) := by decide +kernel
theorem dX12_readsHole_29 : decode cX12_readsHole 29 = .ok (.getfield 255, 3) := by decide +kernel
theorem dX12_readsHole_32 : decode cX12_readsHole 32 = .ok (.iconst 1, 1) := by decide +kernel
theorem dX12_readsHole_33 : decode cX12_readsHole 33 = .ok (.isub, 1) := by decide +kernel
theorem dX12_readsHole_34 : decode cX12_readsHole 34 = .ok (.invokevirtual 258, 3) := by decide +kernel
theorem dX12_readsHole_37 : decode cX12_readsHole 37 = .ok (.istore_n 1, 1) := by decide +kernel
theorem dX12_readsHole_38 : decode cX12_readsHole 38 = .ok (.aload_n 0, 1) := by decide +kernel
theorem dX12_readsHole_39 : decode cX12_readsHole 39 = .ok (.invokevirtual 186, 3) := by decide +kernel
theorem dX12_readsHole_42 : decode cX12_readsHole 42 = .ok (.ifCond .ne 4, 3) := by decide +kernel
theorem dX12_readsHole_45 : decode cX12_readsHole 45 = .ok (.return_, 1) := by decide +kernel
theorem dX12_readsHole_46 : decode cX12_readsHole 46 = .ok (.aload_n 0, 1) := by decide +kernel
theorem dX12_readsHole_47 : decode cX12_readsHole 47 = .ok (.invokevirtual 214, 3) := by decide +kernel
theorem dX12_readsHole_50 : decode cX12_readsHole 50 = .ok (.bipush 9, 2) := by decide +kernel
theorem dX12_readsHole_52 : decode cX12_readsHole 52 = .ok (.isub, 1) := by decide +kernel
theorem dX12_readsHole_53 : decode cX12_readsHole 53 = .ok (.istore_n 2, 1) := by decide +kernel
theorem dX12_readsHole_54 : decode cX12_readsHole 54 = .ok (.iload_n 2, 1) := by decide +kernel
theorem dX12_readsHole_55 : decode cX12_readsHole 55 = .ok (.ifCond .lt 12, 3) := by decide +kernel
theorem dX12_readsHole_58 : decode cX12_readsHole 58 = .ok (.iload_n 2, 1) := by decide +kernel
theorem dX12_readsHole_59 : decode cX12_readsHole 59 = .ok (.iconst 3, 1) := by decide +kernel
theorem dX12_readsHole_60 : decode cX12_readsHole 60 = .ok (.if_icmp .gt 7, 3) := by decide +kernel
theorem dX12_readsHole_63 : decode cX12_readsHole 63 = .ok (.iconst 1, 1) := by decide +kernel
theorem dX12_readsHole_64 : decode cX12_readsHole 64 = .ok (.goto 4, 3) := by decide +kernel
theorem dX12_readsHole_67 : decode cX12_readsHole 67 = .ok (.iconst 0, 1) := by decide +kernel
theorem dX12_readsHole_68 : decode cX12_readsHole 68 = .ok (.istore_n 3, 1) := by decide +kernel
theorem dX12_readsHole_69 : decode cX12_readsHole 69 = .ok (.iconst 0, 1) := by decide +kernel
theorem dX12_readsHole_70 : decode cX12_readsHole 70 = .ok (.istore 4, 2) := by decide +kernel
theorem dX12_readsHole_72 : decode cX12_readsHole 72 = .ok (.iload 4, 2) := by decide +kernel
theorem dX12_readsHole_74 : decode cX12_readsHole 74 = .ok (.aload_n 0, 1) := by decide +kernel
theorem dX12_readsHole_75 : decode cX12_readsHole 75 = .ok (.getfield 252, 3) := by decide +kernel
theorem dX12_readsHole_78 : decode cX12_readsHole 78 = .ok (.if_icmp .ge 46, 3) := by decide +kernel
theorem dX12_readsHole_81 : decode cX12_readsHole 81 = .ok (.iload_n 3, 1) := by decide +kernel
theorem dX12_readsHole_82 : decode cX12_readsHole 82 = .ok (.ifCond .eq 42, 3) := by decide +kernel
theorem dX12_readsHole_85 : decode cX12_readsHole 85 = .ok (.aload_n 0, 1) := by decide +kernel
theorem dX12_readsHole_86 : decode cX12_readsHole 86 = .ok (.getfield 62, 3) := by decide +kernel
theorem dX12_readsHole_89 : decode cX12_readsHole 89 = .ok (.iconst 4, 1) := by decide +kernel
theorem dX12_readsHole_90 : decode cX12_readsHole 90 = .ok (.iload 4, 2) := by decide +kernel
theorem dX12_readsHole_92 : decode cX12_readsHole 92 = .ok (.imul, 1) := by decide +kernel
theorem dX12_readsHole_93 : decode cX12_readsHole 93 = .ok (.iaload, 1) := by decide +kernel
theorem dX12_readsHole_94 : decode cX12_readsHole 94 = .ok (.iload_n 1, 1) := by decide +kernel
theorem dX12_readsHole_95 : decode cX12_readsHole 95 = .ok (.if_icmp .ne 23, 3) := by decide +kernel
theorem dX12_readsHole_98 : decode cX12_readsHole 98 = .ok (.aload_n 0, 1) := by decide +kernel
theorem dX12_readsHole_99 : decode cX12_readsHole 99 = .ok (.getfield 62, 3) := by decide +kernel
theorem dX12_readsHole_102 : decode cX12_readsHole 102 = .ok (.iconst 4, 1) := by decide +kernel
theorem dX12_readsHole_103 : decode cX12_readsHole 103 = .ok (.iload 4, 2) := by decide +kernel
theorem dX12_readsHole_105 : decode cX12_readsHole 105 = .ok (.imul, 1) := by decide +kernel
theorem dX12_readsHole_106 : decode cX12_readsHole 106 = .ok (.iconst 1, 1) := by decide +kernel
theorem dX12_readsHole_107 : decode cX12_readsHole 107 = .ok (.iadd, 1) := by decide +kernel
theorem dX12_readsHole_108 : decode cX12_readsHole 108 = .ok (.iaload, 1) := by decide +kernel
theorem dX12_readsHole_109 : decode cX12_readsHole 109 = .ok (.iload_n 2, 1) := by decide +kernel
theorem dX12_readsHole_110 : decode cX12_readsHole 110 = .ok (.if_icmp .ne 8, 3) := by decide +kernel
theorem dX12_readsHole_113 : decode cX12_readsHole 113 = .ok (.aload_n 0, 1) := by decide +kernel
theorem dX12_readsHole_114 : decode cX12_readsHole 114 = .ok (.iconst 4, 1) := by decide +kernel
theorem dX12_readsHole_115 : decode cX12_readsHole 115 = .ok (.invokevirtual 193, 3) := by decide +kernel
theorem dX12_readsHole_118 : decode cX12_readsHole 118 = .ok (.iinc 4 1, 3) := by decide +kernel
theorem dX12_readsHole_121 : decode cX12_readsHole 121 = .ok (.goto (-49), 3) := by decide +kernel
theorem dX12_readsHole_124 : decode cX12_readsHole 124 = .ok (.aload_n 0, 1) := by decide +kernel
theorem dX12_readsHole_125 : decode cX12_readsHole 125 = .ok (.iload_n 3, 1) := by decide +kernel
theorem dX12_readsHole_126 : decode cX12_readsHole 126 = .ok (.invokevirtual 262, 3) := by decide +kernel
theorem dX12_readsHole_129 : decode cX12_readsHole 129 = .ok (.iconst 4, 1) := by decide +kernel
theorem dX12_readsHole_130 : decode cX12_readsHole 130 = .ok (.aload_n 0, 1) := by decide +kernel
theorem dX12_readsHole_131 : decode cX12_readsHole 131 = .ok (.getfield 252, 3) := by decide +kernel
theorem dX12_readsHole_134 : decode cX12_readsHole 134 = .ok (.imul, 1) := by decide +kernel
theorem dX12_readsHole_135 : decode cX12_readsHole 135 = .ok (.istore 4, 2) := by decide +kernel
theorem dX12_readsHole_137 : decode cX12_readsHole 137 = .ok (.aload_n 0, 1) := by decide +kernel
theorem dX12_readsHole_138 : decode cX12_readsHole 138 = .ok (.getfield 62, 3) := by decide +kernel
theorem dX12_readsHole_141 : decode cX12_readsHole 141 = .ok (.iload 4, 2) := by decide +kernel
theorem dX12_readsHole_143 : decode cX12_readsHole 143 = .ok (.iload_n 1, 1) := by decide +kernel
theorem dX12_readsHole_144 : decode cX12_readsHole 144 = .ok (.iastore, 1) := by decide +kernel
theorem dX12_readsHole_145 : decode cX12_readsHole 145 = .ok (.aload_n 0, 1) := by decide +kernel
theorem dX12_readsHole_146 : decode cX12_readsHole 146 = .ok (.getfield 62, 3) := by decide +kernel
theorem dX12_readsHole_149 : decode cX12_readsHole 149 = .ok (.iload 4, 2) := by decide +kernel
theorem dX12_readsHole_151 : decode cX12_readsHole 151 = .ok (.iconst 1, 1) := by decide +kernel
theorem dX12_readsHole_152 : decode cX12_readsHole 152 = .ok (.iadd, 1) := by decide +kernel
theorem dX12_readsHole_153 : decode cX12_readsHole 153 = .ok (.iload_n 2, 1) := by decide +kernel
theorem dX12_readsHole_154 : decode cX12_readsHole 154 = .ok (.iastore, 1) := by decide +kernel
theorem dX12_readsHole_155 : decode cX12_readsHole 155 = .ok (.aload_n 0, 1) := by decide +kernel
theorem dX12_readsHole_156 : decode cX12_readsHole 156 = .ok (.getfield 62, 3) := by decide +kernel
theorem dX12_readsHole_159 : decode cX12_readsHole 159 = .ok (.iload 4, 2) := by decide +kernel
theorem dX12_readsHole_161 : decode cX12_readsHole 161 = .ok (.iconst 2, 1) := by decide +kernel
theorem dX12_readsHole_162 : decode cX12_readsHole 162 = .ok (.iadd, 1) := by decide +kernel
theorem dX12_readsHole_163 : decode cX12_readsHole 163 = .ok (.aload_n 0, 1) := by decide +kernel
theorem dX12_readsHole_164 : decode cX12_readsHole 164 = .ok (.iconst 1, 1) := by decide +kernel
theorem dX12_readsHole_165 : decode cX12_readsHole 165 = .ok (.bipush 24, 2) := by decide +kernel
theorem dX12_readsHole_167 : decode cX12_readsHole 167 = .ok (.invokevirtual 258, 3) := by decide +kernel
theorem dX12_readsHole_170 : decode cX12_readsHole 170 = .ok (.iastore, 1) := by decide +kernel
theorem dX12_readsHole_171 : decode cX12_readsHole 171 = .ok (.aload_n 0, 1) := by decide +kernel
theorem dX12_readsHole_172 : decode cX12_readsHole 172 = .ok (.getfield 62, 3) := by decide +kernel
theorem dX12_readsHole_175 : decode cX12_readsHole 175 = .ok (.iload 4, 2) := by decide +kernel
theorem dX12_readsHole_177 : decode cX12_readsHole 177 = .ok (.iconst 3, 1) := by decide +kernel
theorem dX12_readsHole_178 : decode cX12_readsHole 178 = .ok (.iadd, 1) := by decide +kernel
theorem dX12_readsHole_179 : decode cX12_readsHole 179 = .ok (.iconst 0, 1) := by decide +kernel
theorem dX12_readsHole_180 : decode cX12_readsHole 180 = .ok (.iastore, 1) := by decide +kernel
theorem dX12_readsHole_181 : decode cX12_readsHole 181 = .ok (.aload_n 0, 1) := by decide +kernel
theorem dX12_readsHole_182 : decode cX12_readsHole 182 = .ok (.invokevirtual 186, 3) := by decide +kernel
theorem dX12_readsHole_185 : decode cX12_readsHole 185 = .ok (.ifCond .eq 26, 3) := by decide +kernel
theorem dX12_readsHole_188 : decode cX12_readsHole 188 = .ok (.aload_n 0, 1) := by decide +kernel
theorem dX12_readsHole_189 : decode cX12_readsHole 189 = .ok (.invokevirtual 214, 3) := by decide +kernel
theorem dX12_readsHole_192 : decode cX12_readsHole 192 = .ok (.bipush 19, 2) := by decide +kernel
theorem dX12_readsHole_194 : decode cX12_readsHole 194 = .ok (.if_icmp .ne 17, 3) := by decide +kernel
theorem dX12_readsHole_197 : decode cX12_readsHole 197 = .ok (.aload_n 0, 1) := by decide +kernel
theorem dX12_readsHole_198 : decode cX12_readsHole 198 = .ok (.getfield 62, 3) := by decide +kernel
theorem dX12_readsHole_201 : decode cX12_readsHole 201 = .ok (.iload 4, 2) := by decide +kernel
theorem dX12_readsHole_203 : decode cX12_readsHole 203 = .ok (.iconst 3, 1) := by decide +kernel
theorem dX12_readsHole_204 : decode cX12_readsHole 204 = .ok (.iadd, 1) := by decide +kernel
theorem dX12_readsHole_205 : decode cX12_readsHole 205 = .ok (.iconst 1, 1) := by decide +kernel
theorem dX12_readsHole_206 : decode cX12_readsHole 206 = .ok (.iastore, 1) := by decide +kernel
theorem dX12_readsHole_207 : decode cX12_readsHole 207 = .ok (.aload_n 0, 1) := by decide +kernel
theorem dX12_readsHole_208 : decode cX12_readsHole 208 = .ok (.invokevirtual 190, 3) := by decide +kernel
theorem dX12_readsHole_211 : decode cX12_readsHole 211 = .ok (.aload_n 0, 1) := by decide +kernel
theorem dX12_readsHole_212 : decode cX12_readsHole 212 = .ok (.invokevirtual 186, 3) := by decide +kernel
theorem dX12_readsHole_215 : decode cX12_readsHole 215 = .ok (.ifCond .eq 13, 3) := by decide +kernel
theorem dX12_readsHole_218 : decode cX12_readsHole 218 = .ok (.aload_n 0, 1) := by decide +kernel
theorem dX12_readsHole_219 : decode cX12_readsHole 219 = .ok (.dup, 1) := by decide +kernel
theorem dX12_readsHole_220 : decode cX12_readsHole 220 = .ok (.getfield 252, 3) := by decide +kernel
theorem dX12_readsHole_223 : decode cX12_readsHole 223 = .ok (.iconst 1, 1) := by decide +kernel
theorem dX12_readsHole_224 : decode cX12_readsHole 224 = .ok (.iadd, 1) := by decide +kernel
theorem dX12_readsHole_225 : decode cX12_readsHole 225 = .ok (.putfield 252, 3) := by decide +kernel
theorem dX12_readsHole_228 : decode cX12_readsHole 228 = .ok (.return_, 1) := by decide +kernel
theorem dX12_readsCause_0 : decode cX12_readsCause 0 = .ok (.aload_n 0, 1) := by decide +kernel
theorem dX12_readsCause_1 : decode cX12_readsCause 1 = .ok (.invokevirtual 190, 3) := by decide +kernel
theorem dX12_readsCause_4 : decode cX12_readsCause 4 = .ok (.aload_n 0, 1) := by decide +kernel
theorem dX12_readsCause_5 : decode cX12_readsCause 5 = .ok (.invokevirtual 214, 3) := by decide +kernel
theorem dX12_readsCause_8 : decode cX12_readsCause 8 = .ok (.bipush 13, 2) := by decide +kernel
theorem dX12_readsCause_10 : decode cX12_readsCause 10 = .ok (.isub, 1) := by decide +kernel
theorem dX12_readsCause_11 : decode cX12_readsCause 11 = .ok (.istore_n 1, 1) := by decide +kernel
theorem dX12_readsCause_12 : decode cX12_readsCause 12 = .ok (.iload_n 1, 1) := by decide +kernel
theorem dX12_readsCause_13 : decode cX12_readsCause 13 = .ok (.ifCond .lt 12, 3) := by decide +kernel
theorem dX12_readsCause_16 : decode cX12_readsCause 16 = .ok (.iload_n 1, 1) := by decide +kernel
theorem dX12_readsCause_17 : decode cX12_readsCause 17 = .ok (.iconst 3, 1) := by decide +kernel
theorem dX12_readsCause_18 : decode cX12_readsCause 18 = .ok (.if_icmp .gt 7, 3) := by decide +kernel
theorem dX12_readsCause_21 : decode cX12_readsCause 21 = .ok (.iconst 1, 1) := by decide +kernel
theorem dX12_readsCause_22 : decode cX12_readsCause 22 = .ok (.goto 4, 3) := by decide +kernel
theorem dX12_readsCause_25 : decode cX12_readsCause 25 = .ok (.iconst 0, 1) := by decide +kernel
theorem dX12_readsCause_26 : decode cX12_readsCause 26 = .ok (.istore_n 2, 1) := by decide +kernel
theorem dX12_readsCause_27 : decode cX12_readsCause 27 = .ok (.iload_n 2, 1) := by decide +kernel
theorem dX12_readsCause_28 : decode cX12_readsCause 28 = .ok (.ifCond .eq 20, 3) := by decide +kernel
theorem dX12_readsCause_31 : decode cX12_readsCause 31 = .ok (.aload_n 0, 1) := by decide +kernel
theorem dX12_readsCause_32 : decode cX12_readsCause 32 = .ok (.getfield 265, 3) := by decide +kernel
theorem dX12_readsCause_35 : decode cX12_readsCause 35 = .ok (.iload_n 1, 1) := by decide +kernel
theorem dX12_readsCause_36 : decode cX12_readsCause 36 = .ok (.ishr, 1) := by decide +kernel
theorem dX12_readsCause_37 : decode cX12_readsCause 37 = .ok (.iconst 1, 1) := by decide +kernel
theorem dX12_readsCause_38 : decode cX12_readsCause 38 = .ok (.iand, 1) := by decide +kernel
theorem dX12_readsCause_39 : decode cX12_readsCause 39 = .ok (.iconst 1, 1) := by decide +kernel
theorem dX12_readsCause_40 : decode cX12_readsCause 40 = .ok (.if_icmp .ne 8, 3) := by decide +kernel
theorem dX12_readsCause_43 : decode cX12_readsCause 43 = .ok (.aload_n 0, 1) := by decide +kernel
theorem dX12_readsCause_44 : decode cX12_readsCause 44 = .ok (.iconst 5, 1) := by decide +kernel
theorem dX12_readsCause_45 : decode cX12_readsCause 45 = .ok (.invokevirtual 193, 3) := by decide +kernel
theorem dX12_readsCause_48 : decode cX12_readsCause 48 = .ok (.aload_n 0, 1) := by decide +kernel
theorem dX12_readsCause_49 : decode cX12_readsCause 49 = .ok (.iload_n 2, 1) := by decide +kernel
theorem dX12_readsCause_50 : decode cX12_readsCause 50 = .ok (.invokevirtual 262, 3) := by decide +kernel
theorem dX12_readsCause_53 : decode cX12_readsCause 53 = .ok (.aload_n 0, 1) := by decide +kernel
theorem dX12_readsCause_54 : decode cX12_readsCause 54 = .ok (.iconst 0, 1) := by decide +kernel
theorem dX12_readsCause_55 : decode cX12_readsCause 55 = .ok (.bipush 99, 2) := by decide +kernel
theorem dX12_readsCause_57 : decode cX12_readsCause 57 = .ok (.invokevirtual 258, 3) := by decide +kernel
theorem dX12_readsCause_60 : decode cX12_readsCause 60 = .ok (.istore_n 3, 1) := by decide +kernel
theorem dX12_readsCause_61 : decode cX12_readsCause 61 = .ok (.aload_n 0, 1) := by decide +kernel
theorem dX12_readsCause_62 : decode cX12_readsCause 62 = .ok (.invokevirtual 186, 3) := by decide +kernel
theorem dX12_readsCause_65 : decode cX12_readsCause 65 = .ok (.ifCond .ne 4, 3) := by decide +kernel
theorem dX12_readsCause_68 : decode cX12_readsCause 68 = .ok (.return_, 1) := by decide +kernel
theorem dX12_readsCause_69 : decode cX12_readsCause 69 = .ok (.aload_n 0, 1) := by decide +kernel
theorem dX12_readsCause_70 : decode cX12_readsCause 70 = .ok (.dup, 1) := by decide +kernel
theorem dX12_readsCause_71 : decode cX12_readsCause 71 = .ok (.getfield 265, 3) := by decide +kernel
theorem dX12_readsCause_74 : decode cX12_readsCause 74 = .ok (.iconst 1, 1) := by decide +kernel
theorem dX12_readsCause_75 : decode cX12_readsCause 75 = .ok (.iload_n 1, 1) := by decide +kernel
theorem dX12_readsCause_76 : decode cX12_readsCause 76 = .ok (.ishl, 1) := by decide +kernel
theorem dX12_readsCause_77 : decode cX12_readsCause 77 = .ok (.ior, 1) := by decide +kernel
theorem dX12_readsCause_78 : decode cX12_readsCause 78 = .ok (.putfield 265, 3) := by decide +kernel
theorem dX12_readsCause_81 : decode cX12_readsCause 81 = .ok (.aload_n 0, 1) := by decide +kernel
theorem dX12_readsCause_82 : decode cX12_readsCause 82 = .ok (.getfield 65, 3) := by decide +kernel
theorem dX12_readsCause_85 : decode cX12_readsCause 85 = .ok (.iload_n 1, 1) := by decide +kernel
theorem dX12_readsCause_86 : decode cX12_readsCause 86 = .ok (.iload_n 3, 1) := by decide +kernel
theorem dX12_readsCause_87 : decode cX12_readsCause 87 = .ok (.iastore, 1) := by decide +kernel
theorem dX12_readsCause_88 : decode cX12_readsCause 88 = .ok (.return_, 1) := by decide +kernel
theorem dX12_readsRider_0 : decode cX12_readsRider 0 = .ok (.aload_n 0, 1) := by decide +kernel
theorem dX12_readsRider_1 : decode cX12_readsRider 1 = .ok (.getfield 268, 3) := by decide +kernel
theorem dX12_readsRider_4 : decode cX12_readsRider 4 = .ok (.bipush 8, 2) := by decide +kernel
theorem dX12_readsRider_6 : decode cX12_readsRider 6 = .ok (.if_icmp .ne 8, 3) := by decide +kernel
theorem dX12_readsRider_9 : decode cX12_readsRider 9 = .ok (.aload_n 0, 1) := by decide +kernel
theorem dX12_readsRider_10 : decode cX12_readsRider 10 = .ok (.iconst 2, 1) := by decide +kernel
theorem dX12_readsRider_11 : decode cX12_readsRider 11 = .ok (.invokevirtual 193, 3) := by decide +kernel
theorem dX12_readsRider_14 : decode cX12_readsRider 14 = .ok (.aload_n 0, 1) := by decide +kernel
theorem dX12_readsRider_15 : decode cX12_readsRider 15 = .ok (.invokevirtual 186, 3) := by decide +kernel
theorem dX12_readsRider_18 : decode cX12_readsRider 18 = .ok (.ifCond .ne 4, 3) := by decide +kernel
theorem dX12_readsRider_21 : decode cX12_readsRider 21 = .ok (.return_, 1) := by decide +kernel
theorem dX12_readsRider_22 : decode cX12_readsRider 22 = .ok (.aload_n 0, 1) := by decide +kernel
theorem dX12_readsRider_23 : decode cX12_readsRider 23 = .ok (.invokevirtual 190, 3) := by decide +kernel
theorem dX12_readsRider_26 : decode cX12_readsRider 26 = .ok (.iconst 4, 1) := by decide +kernel
theorem dX12_readsRider_27 : decode cX12_readsRider 27 = .ok (.aload_n 0, 1) := by decide +kernel
theorem dX12_readsRider_28 : decode cX12_readsRider 28 = .ok (.getfield 268, 3) := by decide +kernel
theorem dX12_readsRider_31 : decode cX12_readsRider 31 = .ok (.imul, 1) := by decide +kernel
theorem dX12_readsRider_32 : decode cX12_readsRider 32 = .ok (.istore_n 1, 1) := by decide +kernel
theorem dX12_readsRider_33 : decode cX12_readsRider 33 = .ok (.aload_n 0, 1) := by decide +kernel
theorem dX12_readsRider_34 : decode cX12_readsRider 34 = .ok (.getfield 71, 3) := by decide +kernel
theorem dX12_readsRider_37 : decode cX12_readsRider 37 = .ok (.iload_n 1, 1) := by decide +kernel
theorem dX12_readsRider_38 : decode cX12_readsRider 38 = .ok (.aload_n 0, 1) := by decide +kernel
theorem dX12_readsRider_39 : decode cX12_readsRider 39 = .ok (.iconst 0, 1) := by decide +kernel
theorem dX12_readsRider_40 : decode cX12_readsRider 40 = .ok (.bipush 39, 2) := by decide +kernel
theorem dX12_readsRider_42 : decode cX12_readsRider 42 = .ok (.invokevirtual 258, 3) := by decide +kernel
theorem dX12_readsRider_45 : decode cX12_readsRider 45 = .ok (.iastore, 1) := by decide +kernel
theorem dX12_readsRider_46 : decode cX12_readsRider 46 = .ok (.aload_n 0, 1) := by decide +kernel
theorem dX12_readsRider_47 : decode cX12_readsRider 47 = .ok (.getfield 71, 3) := by decide +kernel
theorem dX12_readsRider_50 : decode cX12_readsRider 50 = .ok (.iload_n 1, 1) := by decide +kernel
theorem dX12_readsRider_51 : decode cX12_readsRider 51 = .ok (.iconst 1, 1) := by decide +kernel
theorem dX12_readsRider_52 : decode cX12_readsRider 52 = .ok (.iadd, 1) := by decide +kernel
theorem dX12_readsRider_53 : decode cX12_readsRider 53 = .ok (.aload_n 0, 1) := by decide +kernel
theorem dX12_readsRider_54 : decode cX12_readsRider 54 = .ok (.iconst 0, 1) := by decide +kernel
theorem dX12_readsRider_55 : decode cX12_readsRider 55 = .ok (.bipush 39, 2) := by decide +kernel
theorem dX12_readsRider_57 : decode cX12_readsRider 57 = .ok (.invokevirtual 258, 3) := by decide +kernel
theorem dX12_readsRider_60 : decode cX12_readsRider 60 = .ok (.iastore, 1) := by decide +kernel
theorem dX12_readsRider_61 : decode cX12_readsRider 61 = .ok (.aload_n 0, 1) := by decide +kernel
theorem dX12_readsRider_62 : decode cX12_readsRider 62 = .ok (.getfield 71, 3) := by decide +kernel
theorem dX12_readsRider_65 : decode cX12_readsRider 65 = .ok (.iload_n 1, 1) := by decide +kernel
theorem dX12_readsRider_66 : decode cX12_readsRider 66 = .ok (.iconst 2, 1) := by decide +kernel
theorem dX12_readsRider_67 : decode cX12_readsRider 67 = .ok (.iadd, 1) := by decide +kernel
theorem dX12_readsRider_68 : decode cX12_readsRider 68 = .ok (.aload_n 0, 1) := by decide +kernel
theorem dX12_readsRider_69 : decode cX12_readsRider 69 = .ok (.iconst 0, 1) := by decide +kernel
theorem dX12_readsRider_70 : decode cX12_readsRider 70 = .ok (.bipush 23, 2) := by decide +kernel
theorem dX12_readsRider_72 : decode cX12_readsRider 72 = .ok (.invokevirtual 258, 3) := by decide +kernel
theorem dX12_readsRider_75 : decode cX12_readsRider 75 = .ok (.iastore, 1) := by decide +kernel
theorem dX12_readsRider_76 : decode cX12_readsRider 76 = .ok (.aload_n 0, 1) := by decide +kernel
theorem dX12_readsRider_77 : decode cX12_readsRider 77 = .ok (.invokevirtual 186, 3) := by decide +kernel
theorem dX12_readsRider_80 : decode cX12_readsRider 80 = .ok (.ifCond .eq 10, 3) := by decide +kernel
theorem dX12_readsRider_83 : decode cX12_readsRider 83 = .ok (.aload_n 0, 1) := by decide +kernel
theorem dX12_readsRider_84 : decode cX12_readsRider 84 = .ok (.invokevirtual 214, 3) := by decide +kernel
theorem dX12_readsRider_87 : decode cX12_readsRider 87 = .ok (.goto 4, 3) := by decide +kernel
theorem dX12_readsRider_90 : decode cX12_readsRider 90 = .ok (.iconst (-1), 1) := by decide +kernel
theorem dX12_readsRider_91 : decode cX12_readsRider 91 = .ok (.istore_n 2, 1) := by decide +kernel
theorem dX12_readsRider_92 : decode cX12_readsRider 92 = .ok (.aload_n 0, 1) := by decide +kernel
theorem dX12_readsRider_93 : decode cX12_readsRider 93 = .ok (.iload_n 2, 1) := by decide +kernel
theorem dX12_readsRider_94 : decode cX12_readsRider 94 = .ok (.bipush 28, 2) := by decide +kernel
theorem dX12_readsRider_96 : decode cX12_readsRider 96 = .ok (.if_icmp .eq 9, 3) := by decide +kernel
theorem dX12_readsRider_99 : decode cX12_readsRider 99 = .ok (.iload_n 2, 1) := by decide +kernel
theorem dX12_readsRider_100 : decode cX12_readsRider 100 = .ok (.bipush 29, 2) := by decide +kernel
theorem dX12_readsRider_102 : decode cX12_readsRider 102 = .ok (.if_icmp .ne 7, 3) := by decide +kernel
theorem dX12_readsRider_105 : decode cX12_readsRider 105 = .ok (.iconst 1, 1) := by decide +kernel
theorem dX12_readsRider_106 : decode cX12_readsRider 106 = .ok (.goto 4, 3) := by decide +kernel
theorem dX12_readsRider_109 : decode cX12_readsRider 109 = .ok (.iconst 0, 1) := by decide +kernel
theorem dX12_readsRider_110 : decode cX12_readsRider 110 = .ok (.invokevirtual 262, 3) := by decide +kernel
theorem dX12_readsRider_113 : decode cX12_readsRider 113 = .ok (.aload_n 0, 1) := by decide +kernel
theorem dX12_readsRider_114 : decode cX12_readsRider 114 = .ok (.getfield 71, 3) := by decide +kernel
theorem dX12_readsRider_117 : decode cX12_readsRider 117 = .ok (.iload_n 1, 1) := by decide +kernel
theorem dX12_readsRider_118 : decode cX12_readsRider 118 = .ok (.iconst 3, 1) := by decide +kernel
theorem dX12_readsRider_119 : decode cX12_readsRider 119 = .ok (.iadd, 1) := by decide +kernel
theorem dX12_readsRider_120 : decode cX12_readsRider 120 = .ok (.iload_n 2, 1) := by decide +kernel
theorem dX12_readsRider_121 : decode cX12_readsRider 121 = .ok (.bipush 28, 2) := by decide +kernel
theorem dX12_readsRider_123 : decode cX12_readsRider 123 = .ok (.if_icmp .ne 7, 3) := by decide +kernel
theorem dX12_readsRider_126 : decode cX12_readsRider 126 = .ok (.iconst 1, 1) := by decide +kernel
theorem dX12_readsRider_127 : decode cX12_readsRider 127 = .ok (.goto 4, 3) := by decide +kernel
theorem dX12_readsRider_130 : decode cX12_readsRider 130 = .ok (.iconst 0, 1) := by decide +kernel
theorem dX12_readsRider_131 : decode cX12_readsRider 131 = .ok (.iastore, 1) := by decide +kernel
theorem dX12_readsRider_132 : decode cX12_readsRider 132 = .ok (.aload_n 0, 1) := by decide +kernel
theorem dX12_readsRider_133 : decode cX12_readsRider 133 = .ok (.invokevirtual 186, 3) := by decide +kernel
theorem dX12_readsRider_136 : decode cX12_readsRider 136 = .ok (.ifCond .eq 13, 3) := by decide +kernel
theorem dX12_readsRider_139 : decode cX12_readsRider 139 = .ok (.aload_n 0, 1) := by decide +kernel
theorem dX12_readsRider_140 : decode cX12_readsRider 140 = .ok (.dup, 1) := by decide +kernel
theorem dX12_readsRider_141 : decode cX12_readsRider 141 = .ok (.getfield 268, 3) := by decide +kernel
theorem dX12_readsRider_144 : decode cX12_readsRider 144 = .ok (.iconst 1, 1) := by decide +kernel
theorem dX12_readsRider_145 : decode cX12_readsRider 145 = .ok (.iadd, 1) := by decide +kernel
theorem dX12_readsRider_146 : decode cX12_readsRider 146 = .ok (.putfield 268, 3) := by decide +kernel
theorem dX12_readsRider_149 : decode cX12_readsRider 149 = .ok (.return_, 1) := by decide +kernel
theorem dX12_line0_0 : decode cX12_line0 0 = .ok (.aload_n 0, 1) := by decide +kernel
theorem dX12_line0_1 : decode cX12_line0 1 = .ok (.invokevirtual 214, 3) := by decide +kernel
theorem dX12_line0_4 : decode cX12_line0 4 = .ok (.istore_n 1, 1) := by decide +kernel
theorem dX12_line0_5 : decode cX12_line0 5 = .ok (.iload_n 1, 1) := by decide +kernel
theorem dX12_line0_6 : decode cX12_line0 6 = .ok (.bipush 18, 2) := by decide +kernel
theorem dX12_line0_8 : decode cX12_line0 8 = .ok (.if_icmp .ne 10, 3) := by decide +kernel
theorem dX12_line0_11 : decode cX12_line0 11 = .ok (.aload_n 0, 1) := by decide +kernel
theorem dX12_line0_12 : decode cX12_line0 12 = .ok (.invokevirtual 271, 3) := by decide +kernel
theorem dX12_line0_15 : decode cX12_line0 15 = .ok (.goto 369, 3) := by decide +kernel
theorem dX12_line0_18 : decode cX12_line0 18 = .ok (.iload_n 1, 1) := by decide +kernel
theorem dX12_line0_19 : decode cX12_line0 19 = .ok (.bipush 20, 2) := by decide +kernel
theorem dX12_line0_21 : decode cX12_line0 21 = .ok (.if_icmp .ne 25, 3) := by decide +kernel
theorem dX12_line0_24 : decode cX12_line0 24 = .ok (.aload_n 0, 1) := by decide +kernel
theorem dX12_line0_25 : decode cX12_line0 25 = .ok (.iload_n 1, 1) := by decide +kernel
theorem dX12_line0_26 : decode cX12_line0 26 = .ok (.invokevirtual 274, 3) := by decide +kernel
theorem dX12_line0_29 : decode cX12_line0 29 = .ok (.ifCond .eq 355, 3) := by decide +kernel
theorem dX12_line0_32 : decode cX12_line0 32 = .ok (.aload_n 0, 1) := by decide +kernel
theorem dX12_line0_33 : decode cX12_line0 33 = .ok (.aload_n 0, 1) := by decide +kernel
theorem dX12_line0_34 : decode cX12_line0 34 = .ok (.iconst 1, 1) := by decide +kernel
theorem dX12_line0_35 : decode cX12_line0 35 = .ok (.bipush 9, 2) := by decide +kernel
theorem dX12_line0_37 : decode cX12_line0 37 = .ok (.invokevirtual 258, 3) := by decide +kernel
theorem dX12_line0_40 : decode cX12_line0 40 = .ok (.putfield 277, 3) := by decide +kernel
theorem dX12_line0_43 : decode cX12_line0 43 = .ok (.goto 341, 3) := by decide +kernel
theorem dX12_line0_46 : decode cX12_line0 46 = .ok (.iload_n 1, 1) := by decide +kernel
theorem dX12_line0_47 : decode cX12_line0 47 = .ok (.bipush 21, 2) := by decide +kernel
theorem dX12_line0_49 : decode cX12_line0 49 = .ok (.if_icmp .ne 25, 3) := by decide +kernel
theorem dX12_line0_52 : decode cX12_line0 52 = .ok (.aload_n 0, 1) := by decide +kernel
theorem dX12_line0_53 : decode cX12_line0 53 = .ok (.iload_n 1, 1) := by decide +kernel
theorem dX12_line0_54 : decode cX12_line0 54 = .ok (.invokevirtual 274, 3) := by decide +kernel
theorem dX12_line0_57 : decode cX12_line0 57 = .ok (.ifCond .eq 327, 3) := by decide +kernel
theorem dX12_line0_60 : decode cX12_line0 60 = .ok (.aload_n 0, 1) := by decide +kernel
theorem dX12_line0_61 : decode cX12_line0 61 = .ok (.aload_n 0, 1) := by decide +kernel
theorem dX12_line0_62 : decode cX12_line0 62 = .ok (.iconst 1, 1) := by decide +kernel
theorem dX12_line0_63 : decode cX12_line0 63 = .ok (.bipush 99, 2) := by decide +kernel
theorem dX12_line0_65 : decode cX12_line0 65 = .ok (.invokevirtual 258, 3) := by decide +kernel
theorem dX12_line0_68 : decode cX12_line0 68 = .ok (.putfield 280, 3) := by decide +kernel
theorem dX12_line0_71 : decode cX12_line0 71 = .ok (.goto 313, 3) := by decide +kernel
theorem dX12_line0_74 : decode cX12_line0 74 = .ok (.iload_n 1, 1) := by decide +kernel
theorem dX12_line0_75 : decode cX12_line0 75 = .ok (.bipush 22, 2) := by decide +kernel
theorem dX12_line0_77 : decode cX12_line0 77 = .ok (.if_icmp .ne 25, 3) := by decide +kernel
theorem dX12_line0_80 : decode cX12_line0 80 = .ok (.aload_n 0, 1) := by decide +kernel
theorem dX12_line0_81 : decode cX12_line0 81 = .ok (.iload_n 1, 1) := by decide +kernel
theorem dX12_line0_82 : decode cX12_line0 82 = .ok (.invokevirtual 274, 3) := by decide +kernel
theorem dX12_line0_85 : decode cX12_line0 85 = .ok (.ifCond .eq 299, 3) := by decide +kernel
theorem dX12_line0_88 : decode cX12_line0 88 = .ok (.aload_n 0, 1) := by decide +kernel
theorem dX12_line0_89 : decode cX12_line0 89 = .ok (.aload_n 0, 1) := by decide +kernel
theorem dX12_line0_90 : decode cX12_line0 90 = .ok (.iconst 1, 1) := by decide +kernel
theorem dX12_line0_91 : decode cX12_line0 91 = .ok (.bipush 99, 2) := by decide +kernel
theorem dX12_line0_93 : decode cX12_line0 93 = .ok (.invokevirtual 258, 3) := by decide +kernel
theorem dX12_line0_96 : decode cX12_line0 96 = .ok (.putfield 283, 3) := by decide +kernel
theorem dX12_line0_99 : decode cX12_line0 99 = .ok (.goto 285, 3) := by decide +kernel
theorem dX12_line0_102 : decode cX12_line0 102 = .ok (.iload_n 1, 1) := by decide +kernel
theorem dX12_line0_103 : decode cX12_line0 103 = .ok (.iconst 4, 1) := by decide +kernel
theorem dX12_line0_104 : decode cX12_line0 104 = .ok (.if_icmp .ne 25, 3) := by decide +kernel
theorem dX12_line0_107 : decode cX12_line0 107 = .ok (.aload_n 0, 1) := by decide +kernel
theorem dX12_line0_108 : decode cX12_line0 108 = .ok (.iload_n 1, 1) := by decide +kernel
theorem dX12_line0_109 : decode cX12_line0 109 = .ok (.invokevirtual 274, 3) := by decide +kernel
theorem dX12_line0_112 : decode cX12_line0 112 = .ok (.ifCond .eq 272, 3) := by decide +kernel
theorem dX12_line0_115 : decode cX12_line0 115 = .ok (.aload_n 0, 1) := by decide +kernel
theorem dX12_line0_116 : decode cX12_line0 116 = .ok (.aload_n 0, 1) := by decide +kernel
theorem dX12_line0_117 : decode cX12_line0 117 = .ok (.iconst 1, 1) := by decide +kernel
theorem dX12_line0_118 : decode cX12_line0 118 = .ok (.bipush 100, 2) := by decide +kernel
theorem dX12_line0_120 : decode cX12_line0 120 = .ok (.invokevirtual 258, 3) := by decide +kernel
theorem dX12_line0_123 : decode cX12_line0 123 = .ok (.putfield 286, 3) := by decide +kernel
theorem dX12_line0_126 : decode cX12_line0 126 = .ok (.goto 258, 3) := by decide +kernel
theorem dX12_line0_129 : decode cX12_line0 129 = .ok (.iload_n 1, 1) := by decide +kernel
theorem dX12_line0_130 : decode cX12_line0 130 = .ok (.bipush 23, 2) := by decide +kernel
theorem dX12_line0_132 : decode cX12_line0 132 = .ok (.if_icmp .ne 29, 3) := by decide +kernel
theorem dX12_line0_135 : decode cX12_line0 135 = .ok (.aload_n 0, 1) := by decide +kernel
theorem dX12_line0_136 : decode cX12_line0 136 = .ok (.iload_n 1, 1) := by decide +kernel
theorem dX12_line0_137 : decode cX12_line0 137 = .ok (.invokevirtual 274, 3) := by decide +kernel
theorem dX12_line0_140 : decode cX12_line0 140 = .ok (.ifCond .eq 244, 3) := by decide +kernel
theorem dX12_line0_143 : decode cX12_line0 143 = .ok (.aload_n 0, 1) := by decide +kernel
theorem dX12_line0_144 : decode cX12_line0 144 = .ok (.aload_n 0, 1) := by decide +kernel
theorem dX12_line0_145 : decode cX12_line0 145 = .ok (.iconst 0, 1) := by decide +kernel
theorem dX12_line0_146 : decode cX12_line0 146 = .ok (.aload_n 0, 1) := by decide +kernel
theorem dX12_line0_147 : decode cX12_line0 147 = .ok (.getfield 255, 3) := by decide +kernel
theorem dX12_line0_150 : decode cX12_line0 150 = .ok (.iconst 1, 1) := by decide +kernel
theorem dX12_line0_151 : decode cX12_line0 151 = .ok (.isub, 1) := by decide +kernel
theorem dX12_line0_152 : decode cX12_line0 152 = .ok (.invokevirtual 258, 3) := by decide +kernel
theorem dX12_line0_155 : decode cX12_line0 155 = .ok (.putfield 289, 3) := by decide +kernel
theorem dX12_line0_158 : decode cX12_line0 158 = .ok (.goto 226, 3) := by decide +kernel
theorem dX12_line0_161 : decode cX12_line0 161 = .ok (.iload_n 1, 1) := by decide +kernel
theorem dX12_line0_162 : decode cX12_line0 162 = .ok (.bipush 24, 2) := by decide +kernel
theorem dX12_line0_164 : decode cX12_line0 164 = .ok (.if_icmp .ne 37, 3) := by decide +kernel
theorem dX12_line0_167 : decode cX12_line0 167 = .ok (.aload_n 0, 1) := by decide +kernel
theorem dX12_line0_168 : decode cX12_line0 168 = .ok (.iload_n 1, 1) := by decide +kernel
theorem dX12_line0_169 : decode cX12_line0 169 = .ok (.invokevirtual 274, 3) := by decide +kernel
theorem dX12_line0_172 : decode cX12_line0 172 = .ok (.ifCond .ne 4, 3) := by decide +kernel
theorem dX12_line0_175 : decode cX12_line0 175 = .ok (.return_, 1) := by decide +kernel
theorem dX12_line0_176 : decode cX12_line0 176 = .ok (.aload_n 0, 1) := by decide +kernel
theorem dX12_line0_177 : decode cX12_line0 177 = .ok (.aload_n 0, 1) := by decide +kernel
theorem dX12_line0_178 : decode cX12_line0 178 = .ok (.iconst 0, 1) := by decide +kernel
theorem dX12_line0_179 : decode cX12_line0 179 = .ok (.bipush 99, 2) := by decide +kernel
theorem dX12_line0_181 : decode cX12_line0 181 = .ok (.invokevirtual 258, 3) := by decide +kernel
theorem dX12_line0_184 : decode cX12_line0 184 = .ok (.putfield 292, 3) := by decide +kernel
theorem dX12_line0_187 : decode cX12_line0 187 = .ok (.aload_n 0, 1) := by decide +kernel
theorem dX12_line0_188 : decode cX12_line0 188 = .ok (.aload_n 0, 1) := by decide +kernel
theorem dX12_line0_189 : decode cX12_line0 189 = .ok (.iconst 1, 1) := by decide +kernel
theorem dX12_line0_190 : decode cX12_line0 190 = .ok (.bipush 99, 2) := by decide +kernel
theorem dX12_line0_192 : decode cX12_line0 192 = .ok (.invokevirtual 258, 3) := by decide +kernel
theorem dX12_line0_195 : decode cX12_line0 195 = .ok (.putfield 295, 3) := by decide +kernel
theorem dX12_line0_198 : decode cX12_line0 198 = .ok (.goto 186, 3) := by decide +kernel
theorem dX12_line0_201 : decode cX12_line0 201 = .ok (.iload_n 1, 1) := by decide +kernel
theorem dX12_line0_202 : decode cX12_line0 202 = .ok (.bipush 25, 2) := by decide +kernel
theorem dX12_line0_204 : decode cX12_line0 204 = .ok (.if_icmp .ne 10, 3) := by decide +kernel
theorem dX12_line0_207 : decode cX12_line0 207 = .ok (.aload_n 0, 1) := by decide +kernel
theorem dX12_line0_208 : decode cX12_line0 208 = .ok (.invokevirtual 298, 3) := by decide +kernel
theorem dX12_line0_211 : decode cX12_line0 211 = .ok (.goto 173, 3) := by decide +kernel
theorem dX12_line0_214 : decode cX12_line0 214 = .ok (.iload_n 1, 1) := by decide +kernel
theorem dX12_line0_215 : decode cX12_line0 215 = .ok (.bipush 26, 2) := by decide +kernel
theorem dX12_line0_217 : decode cX12_line0 217 = .ok (.if_icmp .ne 80, 3) := by decide +kernel
theorem dX12_line0_220 : decode cX12_line0 220 = .ok (.aload_n 0, 1) := by decide +kernel
theorem dX12_line0_221 : decode cX12_line0 221 = .ok (.getfield 301, 3) := by decide +kernel
theorem dX12_line0_224 : decode cX12_line0 224 = .ok (.bipush 6, 2) := by decide +kernel
theorem dX12_line0_226 : decode cX12_line0 226 = .ok (.if_icmp .ne 8, 3) := by decide +kernel
theorem dX12_line0_229 : decode cX12_line0 229 = .ok (.aload_n 0, 1) := by decide +kernel
theorem dX12_line0_230 : decode cX12_line0 230 = .ok (.iconst 2, 1) := by decide +kernel
theorem dX12_line0_231 : decode cX12_line0 231 = .ok (.invokevirtual 193, 3) := by decide +kernel
theorem dX12_line0_234 : decode cX12_line0 234 = .ok (.aload_n 0, 1) := by decide +kernel
theorem dX12_line0_235 : decode cX12_line0 235 = .ok (.invokevirtual 186, 3) := by decide +kernel
theorem dX12_line0_238 : decode cX12_line0 238 = .ok (.ifCond .ne 4, 3) := by decide +kernel
theorem dX12_line0_241 : decode cX12_line0 241 = .ok (.return_, 1) := by decide +kernel
theorem dX12_line0_242 : decode cX12_line0 242 = .ok (.aload_n 0, 1) := by decide +kernel
theorem dX12_line0_243 : decode cX12_line0 243 = .ok (.invokevirtual 190, 3) := by decide +kernel
theorem dX12_line0_246 : decode cX12_line0 246 = .ok (.aload_n 0, 1) := by decide +kernel
theorem dX12_line0_247 : decode cX12_line0 247 = .ok (.getfield 68, 3) := by decide +kernel
theorem dX12_line0_250 : decode cX12_line0 250 = .ok (.iconst 2, 1) := by decide +kernel
theorem dX12_line0_251 : decode cX12_line0 251 = .ok (.aload_n 0, 1) := by decide +kernel
theorem dX12_line0_252 : decode cX12_line0 252 = .ok (.getfield 301, 3) := by decide +kernel
theorem dX12_line0_255 : decode cX12_line0 255 = .ok (.imul, 1) := by decide +kernel
theorem dX12_line0_256 : decode cX12_line0 256 = .ok (.aload_n 0, 1) := by decide +kernel
theorem dX12_line0_257 : decode cX12_line0 257 = .ok (.iconst 1, 1) := by decide +kernel
theorem dX12_line0_258 : decode cX12_line0 258 = .ok (.bipush 99, 2) := by decide +kernel
theorem dX12_line0_260 : decode cX12_line0 260 = .ok (.invokevirtual 258, 3) := by decide +kernel
theorem dX12_line0_263 : decode cX12_line0 263 = .ok (.iastore, 1) := by decide +kernel
theorem dX12_line0_264 : decode cX12_line0 264 = .ok (.aload_n 0, 1) := by decide +kernel
theorem dX12_line0_265 : decode cX12_line0 265 = .ok (.getfield 68, 3) := by decide +kernel
theorem dX12_line0_268 : decode cX12_line0 268 = .ok (.iconst 2, 1) := by decide +kernel
theorem dX12_line0_269 : decode cX12_line0 269 = .ok (.aload_n 0, 1) := by decide +kernel
theorem dX12_line0_270 : decode cX12_line0 270 = .ok (.getfield 301, 3) := by decide +kernel
theorem dX12_line0_273 : decode cX12_line0 273 = .ok (.imul, 1) := by decide +kernel
theorem dX12_line0_274 : decode cX12_line0 274 = .ok (.iconst 1, 1) := by decide +kernel
theorem dX12_line0_275 : decode cX12_line0 275 = .ok (.iadd, 1) := by decide +kernel
theorem dX12_line0_276 : decode cX12_line0 276 = .ok (.aload_n 0, 1) := by decide +kernel
theorem dX12_line0_277 : decode cX12_line0 277 = .ok (.iconst 1, 1) := by decide +kernel
theorem dX12_line0_278 : decode cX12_line0 278 = .ok (.bipush 99, 2) := by decide +kernel
theorem dX12_line0_280 : decode cX12_line0 280 = .ok (.invokevirtual 258, 3) := by decide +kernel
theorem dX12_line0_283 : decode cX12_line0 283 = .ok (.iastore, 1) := by decide +kernel
theorem dX12_line0_284 : decode cX12_line0 284 = .ok (.aload_n 0, 1) := by decide +kernel
theorem dX12_line0_285 : decode cX12_line0 285 = .ok (.dup, 1) := by decide +kernel
theorem dX12_line0_286 : decode cX12_line0 286 = .ok (.getfield 301, 3) := by decide +kernel
theorem dX12_line0_289 : decode cX12_line0 289 = .ok (.iconst 1, 1) := by decide +kernel
theorem dX12_line0_290 : decode cX12_line0 290 = .ok (.iadd, 1) := by decide +kernel
theorem dX12_line0_291 : decode cX12_line0 291 = .ok (.putfield 301, 3) := by decide +kernel
theorem dX12_line0_294 : decode cX12_line0 294 = .ok (.goto 90, 3) := by decide +kernel
theorem dX12_line0_297 : decode cX12_line0 297 = .ok (.iload_n 1, 1) := by decide +kernel
theorem dX12_line0_298 : decode cX12_line0 298 = .ok (.bipush 27, 2) := by decide +kernel
theorem dX12_line0_300 : decode cX12_line0 300 = .ok (.if_icmp .ne 10, 3) := by decide +kernel
theorem dX12_line0_303 : decode cX12_line0 303 = .ok (.aload_n 0, 1) := by decide +kernel
theorem dX12_line0_304 : decode cX12_line0 304 = .ok (.invokevirtual 304, 3) := by decide +kernel
theorem dX12_line0_307 : decode cX12_line0 307 = .ok (.goto 77, 3) := by decide +kernel
theorem dX12_line0_310 : decode cX12_line0 310 = .ok (.iload_n 1, 1) := by decide +kernel
theorem dX12_line0_311 : decode cX12_line0 311 = .ok (.bipush 30, 2) := by decide +kernel
theorem dX12_line0_313 : decode cX12_line0 313 = .ok (.if_icmp .eq 9, 3) := by decide +kernel
theorem dX12_line0_316 : decode cX12_line0 316 = .ok (.iload_n 1, 1) := by decide +kernel
theorem dX12_line0_317 : decode cX12_line0 317 = .ok (.bipush 31, 2) := by decide +kernel
theorem dX12_line0_319 : decode cX12_line0 319 = .ok (.if_icmp .ne 60, 3) := by decide +kernel
theorem dX12_line0_322 : decode cX12_line0 322 = .ok (.aload_n 0, 1) := by decide +kernel
theorem dX12_line0_323 : decode cX12_line0 323 = .ok (.iload_n 1, 1) := by decide +kernel
theorem dX12_line0_324 : decode cX12_line0 324 = .ok (.invokevirtual 274, 3) := by decide +kernel
theorem dX12_line0_327 : decode cX12_line0 327 = .ok (.ifCond .ne 4, 3) := by decide +kernel
theorem dX12_line0_330 : decode cX12_line0 330 = .ok (.return_, 1) := by decide +kernel
theorem dX12_line0_331 : decode cX12_line0 331 = .ok (.aload_n 0, 1) := by decide +kernel
theorem dX12_line0_332 : decode cX12_line0 332 = .ok (.iload_n 1, 1) := by decide +kernel
theorem dX12_line0_333 : decode cX12_line0 333 = .ok (.bipush 31, 2) := by decide +kernel
theorem dX12_line0_335 : decode cX12_line0 335 = .ok (.if_icmp .ne 7, 3) := by decide +kernel
theorem dX12_line0_338 : decode cX12_line0 338 = .ok (.iconst 1, 1) := by decide +kernel
theorem dX12_line0_339 : decode cX12_line0 339 = .ok (.goto 4, 3) := by decide +kernel
theorem dX12_line0_342 : decode cX12_line0 342 = .ok (.iconst 0, 1) := by decide +kernel
theorem dX12_line0_343 : decode cX12_line0 343 = .ok (.putfield 196, 3) := by decide +kernel
theorem dX12_line0_346 : decode cX12_line0 346 = .ok (.aload_n 0, 1) := by decide +kernel
theorem dX12_line0_347 : decode cX12_line0 347 = .ok (.getfield 196, 3) := by decide +kernel
theorem dX12_line0_350 : decode cX12_line0 350 = .ok (.ifCond .eq 14, 3) := by decide +kernel
theorem dX12_line0_353 : decode cX12_line0 353 = .ok (.aload_n 0, 1) := by decide +kernel
theorem dX12_line0_354 : decode cX12_line0 354 = .ok (.aload_n 0, 1) := by decide +kernel
theorem dX12_line0_355 : decode cX12_line0 355 = .ok (.getfield 200, 3) := by decide +kernel
theorem dX12_line0_358 : decode cX12_line0 358 = .ok (.putfield 307, 3) := by decide +kernel
theorem dX12_line0_361 : decode cX12_line0 361 = .ok (.goto 11, 3) := by decide +kernel
theorem dX12_line0_364 : decode cX12_line0 364 = .ok (.aload_n 0, 1) := by decide +kernel
theorem dX12_line0_365 : decode cX12_line0 365 = .ok (.aload_n 0, 1) := by decide +kernel
theorem dX12_line0_366 : decode cX12_line0 366 = .ok (.getfield 200, 3) := by decide +kernel
theorem dX12_line0_369 : decode cX12_line0 369 = .ok (.putfield 310, 3) := by decide +kernel
theorem dX12_line0_372 : decode cX12_line0 372 = .ok (.aload_n 0, 1) := by decide +kernel
theorem dX12_line0_373 : decode cX12_line0 373 = .ok (.invokevirtual 313, 3) := by decide +kernel
theorem dX12_line0_376 : decode cX12_line0 376 = .ok (.goto 8, 3) := by decide +kernel
theorem dX12_line0_379 : decode cX12_line0 379 = .ok (.aload_n 0, 1) := by decide +kernel
theorem dX12_line0_380 : decode cX12_line0 380 = .ok (.iconst 1, 1) := by decide +kernel
theorem dX12_line0_381 : decode cX12_line0 381 = .ok (.invokevirtual 193, 3) := by decide +kernel
theorem dX12_line0_384 : decode cX12_line0 384 = .ok (.aload_n 0, 1) := by decide +kernel
theorem dX12_line0_385 : decode cX12_line0 385 = .ok (.aload_n 0, 1) := by decide +kernel
theorem dX12_line0_386 : decode cX12_line0 386 = .ok (.bipush 59, 2) := by decide +kernel
theorem dX12_line0_388 : decode cX12_line0 388 = .ok (.invokevirtual 224, 3) := by decide +kernel
theorem dX12_line0_391 : decode cX12_line0 391 = .ok (.invokevirtual 262, 3) := by decide +kernel
theorem dX12_line0_394 : decode cX12_line0 394 = .ok (.return_, 1) := by decide +kernel
theorem dX12_asWithout_0 : decode cX12_asWithout 0 = .ok (.aload_n 0, 1) := by decide +kernel
theorem dX12_asWithout_1 : decode cX12_asWithout 1 = .ok (.bipush 48, 2) := by decide +kernel
theorem dX12_asWithout_3 : decode cX12_asWithout 3 = .ok (.putfield 255, 3) := by decide +kernel
theorem dX12_asWithout_6 : decode cX12_asWithout 6 = .ok (.aload_n 0, 1) := by decide +kernel
theorem dX12_asWithout_7 : decode cX12_asWithout 7 = .ok (.iconst 3, 1) := by decide +kernel
theorem dX12_asWithout_8 : decode cX12_asWithout 8 = .ok (.putfield 277, 3) := by decide +kernel
theorem dX12_asWithout_11 : decode cX12_asWithout 11 = .ok (.aload_n 0, 1) := by decide +kernel
theorem dX12_asWithout_12 : decode cX12_asWithout 12 = .ok (.bipush 60, 2) := by decide +kernel
theorem dX12_asWithout_14 : decode cX12_asWithout 14 = .ok (.putfield 280, 3) := by decide +kernel
theorem dX12_asWithout_17 : decode cX12_asWithout 17 = .ok (.aload_n 0, 1) := by decide +kernel
theorem dX12_asWithout_18 : decode cX12_asWithout 18 = .ok (.bipush 90, 2) := by decide +kernel
theorem dX12_asWithout_20 : decode cX12_asWithout 20 = .ok (.putfield 283, 3) := by decide +kernel
theorem dX12_asWithout_23 : decode cX12_asWithout 23 = .ok (.aload_n 0, 1) := by decide +kernel
theorem dX12_asWithout_24 : decode cX12_asWithout 24 = .ok (.bipush 60, 2) := by decide +kernel
theorem dX12_asWithout_26 : decode cX12_asWithout 26 = .ok (.putfield 286, 3) := by decide +kernel
theorem dX12_asWithout_29 : decode cX12_asWithout 29 = .ok (.aload_n 0, 1) := by decide +kernel
theorem dX12_asWithout_30 : decode cX12_asWithout 30 = .ok (.iconst 0, 1) := by decide +kernel
theorem dX12_asWithout_31 : decode cX12_asWithout 31 = .ok (.putfield 289, 3) := by decide +kernel
theorem dX12_asWithout_34 : decode cX12_asWithout 34 = .ok (.aload_n 0, 1) := by decide +kernel
theorem dX12_asWithout_35 : decode cX12_asWithout 35 = .ok (.bipush 30, 2) := by decide +kernel
theorem dX12_asWithout_37 : decode cX12_asWithout 37 = .ok (.putfield 292, 3) := by decide +kernel
theorem dX12_asWithout_40 : decode cX12_asWithout 40 = .ok (.aload_n 0, 1) := by decide +kernel
theorem dX12_asWithout_41 : decode cX12_asWithout 41 = .ok (.bipush 50, 2) := by decide +kernel
theorem dX12_asWithout_43 : decode cX12_asWithout 43 = .ok (.putfield 295, 3) := by decide +kernel
theorem dX12_asWithout_46 : decode cX12_asWithout 46 = .ok (.aload_n 0, 1) := by decide +kernel
theorem dX12_asWithout_47 : decode cX12_asWithout 47 = .ok (.iconst 0, 1) := by decide +kernel
theorem dX12_asWithout_48 : decode cX12_asWithout 48 = .ok (.putfield 252, 3) := by decide +kernel
theorem dX12_asWithout_51 : decode cX12_asWithout 51 = .ok (.aload_n 0, 1) := by decide +kernel
theorem dX12_asWithout_52 : decode cX12_asWithout 52 = .ok (.iconst 0, 1) := by decide +kernel
theorem dX12_asWithout_53 : decode cX12_asWithout 53 = .ok (.putfield 301, 3) := by decide +kernel
theorem dX12_asWithout_56 : decode cX12_asWithout 56 = .ok (.aload_n 0, 1) := by decide +kernel
theorem dX12_asWithout_57 : decode cX12_asWithout 57 = .ok (.iconst 0, 1) := by decide +kernel
theorem dX12_asWithout_58 : decode cX12_asWithout 58 = .ok (.putfield 268, 3) := by decide +kernel
theorem dX12_asWithout_61 : decode cX12_asWithout 61 = .ok (.aload_n 0, 1) := by decide +kernel
theorem dX12_asWithout_62 : decode cX12_asWithout 62 = .ok (.iconst (-1), 1) := by decide +kernel
theorem dX12_asWithout_63 : decode cX12_asWithout 63 = .ok (.putfield 310, 3) := by decide +kernel
theorem dX12_asWithout_66 : decode cX12_asWithout 66 = .ok (.aload_n 0, 1) := by decide +kernel
theorem dX12_asWithout_67 : decode cX12_asWithout 67 = .ok (.iconst (-1), 1) := by decide +kernel
theorem dX12_asWithout_68 : decode cX12_asWithout 68 = .ok (.putfield 307, 3) := by decide +kernel
theorem dX12_asWithout_71 : decode cX12_asWithout 71 = .ok (.aload_n 0, 1) := by decide +kernel
theorem dX12_asWithout_72 : decode cX12_asWithout 72 = .ok (.lconst 0, 1) := by decide +kernel
theorem dX12_asWithout_73 : decode cX12_asWithout 73 = .ok (.putfield 249, 3) := by decide +kernel
theorem dX12_asWithout_76 : decode cX12_asWithout 76 = .ok (.aload_n 0, 1) := by decide +kernel
theorem dX12_asWithout_77 : decode cX12_asWithout 77 = .ok (.iconst 0, 1) := by decide +kernel
theorem dX12_asWithout_78 : decode cX12_asWithout 78 = .ok (.putfield 265, 3) := by decide +kernel
theorem dX12_asWithout_81 : decode cX12_asWithout 81 = .ok (.aload_n 0, 1) := by decide +kernel
theorem dX12_asWithout_82 : decode cX12_asWithout 82 = .ok (.getfield 65, 3) := by decide +kernel
theorem dX12_asWithout_85 : decode cX12_asWithout 85 = .ok (.iconst 0, 1) := by decide +kernel
theorem dX12_asWithout_86 : decode cX12_asWithout 86 = .ok (.iconst 5, 1) := by decide +kernel
theorem dX12_asWithout_87 : decode cX12_asWithout 87 = .ok (.iastore, 1) := by decide +kernel
theorem dX12_asWithout_88 : decode cX12_asWithout 88 = .ok (.aload_n 0, 1) := by decide +kernel
theorem dX12_asWithout_89 : decode cX12_asWithout 89 = .ok (.getfield 65, 3) := by decide +kernel
theorem dX12_asWithout_92 : decode cX12_asWithout 92 = .ok (.iconst 1, 1) := by decide +kernel
theorem dX12_asWithout_93 : decode cX12_asWithout 93 = .ok (.iconst 2, 1) := by decide +kernel
theorem dX12_asWithout_94 : decode cX12_asWithout 94 = .ok (.iastore, 1) := by decide +kernel
theorem dX12_asWithout_95 : decode cX12_asWithout 95 = .ok (.aload_n 0, 1) := by decide +kernel
theorem dX12_asWithout_96 : decode cX12_asWithout 96 = .ok (.getfield 65, 3) := by decide +kernel
theorem dX12_asWithout_99 : decode cX12_asWithout 99 = .ok (.iconst 2, 1) := by decide +kernel
theorem dX12_asWithout_100 : decode cX12_asWithout 100 = .ok (.iconst 1, 1) := by decide +kernel
theorem dX12_asWithout_101 : decode cX12_asWithout 101 = .ok (.iastore, 1) := by decide +kernel
theorem dX12_asWithout_102 : decode cX12_asWithout 102 = .ok (.aload_n 0, 1) := by decide +kernel
theorem dX12_asWithout_103 : decode cX12_asWithout 103 = .ok (.getfield 65, 3) := by decide +kernel
theorem dX12_asWithout_106 : decode cX12_asWithout 106 = .ok (.iconst 3, 1) := by decide +kernel
theorem dX12_asWithout_107 : decode cX12_asWithout 107 = .ok (.iconst 1, 1) := by decide +kernel
theorem dX12_asWithout_108 : decode cX12_asWithout 108 = .ok (.iastore, 1) := by decide +kernel
theorem dX12_asWithout_109 : decode cX12_asWithout 109 = .ok (.aload_n 0, 1) := by decide +kernel
theorem dX12_asWithout_110 : decode cX12_asWithout 110 = .ok (.iconst 0, 1) := by decide +kernel
theorem dX12_asWithout_111 : decode cX12_asWithout 111 = .ok (.putfield 200, 3) := by decide +kernel
theorem dX12_asWithout_114 : decode cX12_asWithout 114 = .ok (.return_, 1) := by decide +kernel
theorem dX12_shed_0 : decode cX12_shed 0 = .ok (.aload_n 0, 1) := by decide +kernel
theorem dX12_shed_1 : decode cX12_shed 1 = .ok (.iconst 0, 1) := by decide +kernel
theorem dX12_shed_2 : decode cX12_shed 2 = .ok (.putfield 127, 3) := by decide +kernel
theorem dX12_shed_5 : decode cX12_shed 5 = .ok (.aload_n 0, 1) := by decide +kernel
theorem dX12_shed_6 : decode cX12_shed 6 = .ok (.iload_n 1, 1) := by decide +kernel
theorem dX12_shed_7 : decode cX12_shed 7 = .ok (.ifCond .lt 15, 3) := by decide +kernel
theorem dX12_shed_10 : decode cX12_shed 10 = .ok (.iload_n 1, 1) := by decide +kernel
theorem dX12_shed_11 : decode cX12_shed 11 = .ok (.aload_n 0, 1) := by decide +kernel
theorem dX12_shed_12 : decode cX12_shed 12 = .ok (.getfield 130, 3) := by decide +kernel
theorem dX12_shed_15 : decode cX12_shed 15 = .ok (.if_icmp .gt 7, 3) := by decide +kernel
theorem dX12_shed_18 : decode cX12_shed 18 = .ok (.iconst 1, 1) := by decide +kernel
theorem dX12_shed_19 : decode cX12_shed 19 = .ok (.goto 4, 3) := by decide +kernel
theorem dX12_shed_22 : decode cX12_shed 22 = .ok (.iconst 0, 1) := by decide +kernel
theorem dX12_shed_23 : decode cX12_shed 23 = .ok (.iconst 1, 1) := by decide +kernel
theorem dX12_shed_24 : decode cX12_shed 24 = .ok (.invokevirtual 316, 3) := by decide +kernel
theorem dX12_shed_27 : decode cX12_shed 27 = .ok (.ifCond .ne 5, 3) := by decide +kernel
theorem dX12_shed_30 : decode cX12_shed 30 = .ok (.iconst 0, 1) := by decide +kernel
theorem dX12_shed_31 : decode cX12_shed 31 = .ok (.ireturn, 1) := by decide +kernel
theorem dX12_shed_32 : decode cX12_shed 32 = .ok (.aload_n 0, 1) := by decide +kernel
theorem dX12_shed_33 : decode cX12_shed 33 = .ok (.iconst 0, 1) := by decide +kernel
theorem dX12_shed_34 : decode cX12_shed 34 = .ok (.putfield 130, 3) := by decide +kernel
theorem dX12_shed_37 : decode cX12_shed 37 = .ok (.aload_n 0, 1) := by decide +kernel
theorem dX12_shed_38 : decode cX12_shed 38 = .ok (.iconst (-1), 1) := by decide +kernel
theorem dX12_shed_39 : decode cX12_shed 39 = .ok (.putfield 56, 3) := by decide +kernel
theorem dX12_shed_42 : decode cX12_shed 42 = .ok (.aload_n 0, 1) := by decide +kernel
theorem dX12_shed_43 : decode cX12_shed 43 = .ok (.iconst 0, 1) := by decide +kernel
theorem dX12_shed_44 : decode cX12_shed 44 = .ok (.putfield 183, 3) := by decide +kernel
theorem dX12_shed_47 : decode cX12_shed 47 = .ok (.aload_n 0, 1) := by decide +kernel
theorem dX12_shed_48 : decode cX12_shed 48 = .ok (.iload_n 1, 1) := by decide +kernel
theorem dX12_shed_49 : decode cX12_shed 49 = .ok (.putfield 137, 3) := by decide +kernel
theorem dX12_shed_52 : decode cX12_shed 52 = .ok (.aload_n 0, 1) := by decide +kernel
theorem dX12_shed_53 : decode cX12_shed 53 = .ok (.iconst 0, 1) := by decide +kernel
theorem dX12_shed_54 : decode cX12_shed 54 = .ok (.putfield 140, 3) := by decide +kernel
theorem dX12_shed_57 : decode cX12_shed 57 = .ok (.aload_n 0, 1) := by decide +kernel
theorem dX12_shed_58 : decode cX12_shed 58 = .ok (.invokevirtual 320, 3) := by decide +kernel
theorem dX12_shed_61 : decode cX12_shed 61 = .ok (.aload_n 0, 1) := by decide +kernel
theorem dX12_shed_62 : decode cX12_shed 62 = .ok (.invokevirtual 190, 3) := by decide +kernel
theorem dX12_shed_65 : decode cX12_shed 65 = .ok (.aload_n 0, 1) := by decide +kernel
theorem dX12_shed_66 : decode cX12_shed 66 = .ok (.invokevirtual 214, 3) := by decide +kernel
theorem dX12_shed_69 : decode cX12_shed 69 = .ok (.bipush 17, 2) := by decide +kernel
theorem dX12_shed_71 : decode cX12_shed 71 = .ok (.if_icmp .ne 29, 3) := by decide +kernel
theorem dX12_shed_74 : decode cX12_shed 74 = .ok (.aload_n 0, 1) := by decide +kernel
theorem dX12_shed_75 : decode cX12_shed 75 = .ok (.invokevirtual 190, 3) := by decide +kernel
theorem dX12_shed_78 : decode cX12_shed 78 = .ok (.aload_n 0, 1) := by decide +kernel
theorem dX12_shed_79 : decode cX12_shed 79 = .ok (.aload_n 0, 1) := by decide +kernel
theorem dX12_shed_80 : decode cX12_shed 80 = .ok (.bipush 12, 2) := by decide +kernel
theorem dX12_shed_82 : decode cX12_shed 82 = .ok (.bipush 84, 2) := by decide +kernel
theorem dX12_shed_84 : decode cX12_shed 84 = .ok (.invokevirtual 258, 3) := by decide +kernel
theorem dX12_shed_87 : decode cX12_shed 87 = .ok (.putfield 255, 3) := by decide +kernel
theorem dX12_shed_90 : decode cX12_shed 90 = .ok (.aload_n 0, 1) := by decide +kernel
theorem dX12_shed_91 : decode cX12_shed 91 = .ok (.aload_n 0, 1) := by decide +kernel
theorem dX12_shed_92 : decode cX12_shed 92 = .ok (.bipush 59, 2) := by decide +kernel
theorem dX12_shed_94 : decode cX12_shed 94 = .ok (.invokevirtual 224, 3) := by decide +kernel
theorem dX12_shed_97 : decode cX12_shed 97 = .ok (.invokevirtual 262, 3) := by decide +kernel
theorem dX12_shed_100 : decode cX12_shed 100 = .ok (.aload_n 0, 1) := by decide +kernel
theorem dX12_shed_101 : decode cX12_shed 101 = .ok (.invokevirtual 186, 3) := by decide +kernel
theorem dX12_shed_104 : decode cX12_shed 104 = .ok (.ifCond .eq 17, 3) := by decide +kernel
theorem dX12_shed_107 : decode cX12_shed 107 = .ok (.aload_n 0, 1) := by decide +kernel
theorem dX12_shed_108 : decode cX12_shed 108 = .ok (.getfield 160, 3) := by decide +kernel
theorem dX12_shed_111 : decode cX12_shed 111 = .ok (.ifCond .eq 10, 3) := by decide +kernel
theorem dX12_shed_114 : decode cX12_shed 114 = .ok (.aload_n 0, 1) := by decide +kernel
theorem dX12_shed_115 : decode cX12_shed 115 = .ok (.invokevirtual 323, 3) := by decide +kernel
theorem dX12_shed_118 : decode cX12_shed 118 = .ok (.goto (-18), 3) := by decide +kernel
theorem dX12_shed_121 : decode cX12_shed 121 = .ok (.aload_n 0, 1) := by decide +kernel
theorem dX12_shed_122 : decode cX12_shed 122 = .ok (.invokevirtual 186, 3) := by decide +kernel
theorem dX12_shed_125 : decode cX12_shed 125 = .ok (.ifCond .eq 44, 3) := by decide +kernel
theorem dX12_shed_128 : decode cX12_shed 128 = .ok (.aload_n 0, 1) := by decide +kernel
theorem dX12_shed_129 : decode cX12_shed 129 = .ok (.getfield 65, 3) := by decide +kernel
theorem dX12_shed_132 : decode cX12_shed 132 = .ok (.iconst 0, 1) := by decide +kernel
theorem dX12_shed_133 : decode cX12_shed 133 = .ok (.iaload, 1) := by decide +kernel
theorem dX12_shed_134 : decode cX12_shed 134 = .ok (.aload_n 0, 1) := by decide +kernel
theorem dX12_shed_135 : decode cX12_shed 135 = .ok (.getfield 65, 3) := by decide +kernel
theorem dX12_shed_138 : decode cX12_shed 138 = .ok (.iconst 1, 1) := by decide +kernel
theorem dX12_shed_139 : decode cX12_shed 139 = .ok (.iaload, 1) := by decide +kernel
theorem dX12_shed_140 : decode cX12_shed 140 = .ok (.iadd, 1) := by decide +kernel
theorem dX12_shed_141 : decode cX12_shed 141 = .ok (.aload_n 0, 1) := by decide +kernel
theorem dX12_shed_142 : decode cX12_shed 142 = .ok (.getfield 65, 3) := by decide +kernel
theorem dX12_shed_145 : decode cX12_shed 145 = .ok (.iconst 2, 1) := by decide +kernel
theorem dX12_shed_146 : decode cX12_shed 146 = .ok (.iaload, 1) := by decide +kernel
theorem dX12_shed_147 : decode cX12_shed 147 = .ok (.iadd, 1) := by decide +kernel
theorem dX12_shed_148 : decode cX12_shed 148 = .ok (.aload_n 0, 1) := by decide +kernel
theorem dX12_shed_149 : decode cX12_shed 149 = .ok (.getfield 65, 3) := by decide +kernel
theorem dX12_shed_152 : decode cX12_shed 152 = .ok (.iconst 3, 1) := by decide +kernel
theorem dX12_shed_153 : decode cX12_shed 153 = .ok (.iaload, 1) := by decide +kernel
theorem dX12_shed_154 : decode cX12_shed 154 = .ok (.iadd, 1) := by decide +kernel
theorem dX12_shed_155 : decode cX12_shed 155 = .ok (.ifCond .ne 14, 3) := by decide +kernel
theorem dX12_shed_158 : decode cX12_shed 158 = .ok (.aload_n 0, 1) := by decide +kernel
theorem dX12_shed_159 : decode cX12_shed 159 = .ok (.iload_n 1, 1) := by decide +kernel
theorem dX12_shed_160 : decode cX12_shed 160 = .ok (.putfield 147, 3) := by decide +kernel
theorem dX12_shed_163 : decode cX12_shed 163 = .ok (.aload_n 0, 1) := by decide +kernel
theorem dX12_shed_164 : decode cX12_shed 164 = .ok (.bipush 6, 2) := by decide +kernel
theorem dX12_shed_166 : decode cX12_shed 166 = .ok (.invokevirtual 193, 3) := by decide +kernel
theorem dX12_shed_169 : decode cX12_shed 169 = .ok (.aload_n 0, 1) := by decide +kernel
theorem dX12_shed_170 : decode cX12_shed 170 = .ok (.invokevirtual 186, 3) := by decide +kernel
theorem dX12_shed_173 : decode cX12_shed 173 = .ok (.ifCond .ne 18, 3) := by decide +kernel
theorem dX12_shed_176 : decode cX12_shed 176 = .ok (.aload_n 0, 1) := by decide +kernel
theorem dX12_shed_177 : decode cX12_shed 177 = .ok (.getfield 59, 3) := by decide +kernel
theorem dX12_shed_180 : decode cX12_shed 180 = .ok (.iconst 0, 1) := by decide +kernel
theorem dX12_shed_181 : decode cX12_shed 181 = .ok (.dup2, 1) := by decide +kernel
theorem dX12_shed_182 : decode cX12_shed 182 = .ok (.iaload, 1) := by decide +kernel
theorem dX12_shed_183 : decode cX12_shed 183 = .ok (.iconst 1, 1) := by decide +kernel
theorem dX12_shed_184 : decode cX12_shed 184 = .ok (.iadd, 1) := by decide +kernel
theorem dX12_shed_185 : decode cX12_shed 185 = .ok (.iastore, 1) := by decide +kernel
theorem dX12_shed_186 : decode cX12_shed 186 = .ok (.aload_n 0, 1) := by decide +kernel
theorem dX12_shed_187 : decode cX12_shed 187 = .ok (.getfield 183, 3) := by decide +kernel
theorem dX12_shed_190 : decode cX12_shed 190 = .ok (.ireturn, 1) := by decide +kernel
theorem dX12_shed_191 : decode cX12_shed 191 = .ok (.aload_n 0, 1) := by decide +kernel
theorem dX12_shed_192 : decode cX12_shed 192 = .ok (.aload_n 0, 1) := by decide +kernel
theorem dX12_shed_193 : decode cX12_shed 193 = .ok (.getfield 255, 3) := by decide +kernel
theorem dX12_shed_196 : decode cX12_shed 196 = .ok (.putfield 7, 3) := by decide +kernel
theorem dX12_shed_199 : decode cX12_shed 199 = .ok (.aload_n 0, 1) := by decide +kernel
theorem dX12_shed_200 : decode cX12_shed 200 = .ok (.aload_n 0, 1) := by decide +kernel
theorem dX12_shed_201 : decode cX12_shed 201 = .ok (.getfield 277, 3) := by decide +kernel
theorem dX12_shed_204 : decode cX12_shed 204 = .ok (.putfield 13, 3) := by decide +kernel
theorem dX12_shed_207 : decode cX12_shed 207 = .ok (.aload_n 0, 1) := by decide +kernel
theorem dX12_shed_208 : decode cX12_shed 208 = .ok (.aload_n 0, 1) := by decide +kernel
theorem dX12_shed_209 : decode cX12_shed 209 = .ok (.getfield 280, 3) := by decide +kernel
theorem dX12_shed_212 : decode cX12_shed 212 = .ok (.putfield 16, 3) := by decide +kernel
theorem dX12_shed_215 : decode cX12_shed 215 = .ok (.aload_n 0, 1) := by decide +kernel
theorem dX12_shed_216 : decode cX12_shed 216 = .ok (.aload_n 0, 1) := by decide +kernel
theorem dX12_shed_217 : decode cX12_shed 217 = .ok (.getfield 283, 3) := by decide +kernel
theorem dX12_shed_220 : decode cX12_shed 220 = .ok (.putfield 19, 3) := by decide +kernel
theorem dX12_shed_223 : decode cX12_shed 223 = .ok (.aload_n 0, 1) := by decide +kernel
theorem dX12_shed_224 : decode cX12_shed 224 = .ok (.aload_n 0, 1) := by decide +kernel
theorem dX12_shed_225 : decode cX12_shed 225 = .ok (.getfield 286, 3) := by decide +kernel
theorem dX12_shed_228 : decode cX12_shed 228 = .ok (.putfield 22, 3) := by decide +kernel
theorem dX12_shed_231 : decode cX12_shed 231 = .ok (.aload_n 0, 1) := by decide +kernel
theorem dX12_shed_232 : decode cX12_shed 232 = .ok (.aload_n 0, 1) := by decide +kernel
theorem dX12_shed_233 : decode cX12_shed 233 = .ok (.getfield 289, 3) := by decide +kernel
theorem dX12_shed_236 : decode cX12_shed 236 = .ok (.putfield 326, 3) := by decide +kernel
theorem dX12_shed_239 : decode cX12_shed 239 = .ok (.aload_n 0, 1) := by decide +kernel
theorem dX12_shed_240 : decode cX12_shed 240 = .ok (.aload_n 0, 1) := by decide +kernel
theorem dX12_shed_241 : decode cX12_shed 241 = .ok (.getfield 292, 3) := by decide +kernel
theorem dX12_shed_244 : decode cX12_shed 244 = .ok (.putfield 25, 3) := by decide +kernel
theorem dX12_shed_247 : decode cX12_shed 247 = .ok (.aload_n 0, 1) := by decide +kernel
theorem dX12_shed_248 : decode cX12_shed 248 = .ok (.aload_n 0, 1) := by decide +kernel
theorem dX12_shed_249 : decode cX12_shed 249 = .ok (.getfield 295, 3) := by decide +kernel
theorem dX12_shed_252 : decode cX12_shed 252 = .ok (.putfield 28, 3) := by decide +kernel
theorem dX12_shed_255 : decode cX12_shed 255 = .ok (.aload_n 0, 1) := by decide +kernel
theorem dX12_shed_256 : decode cX12_shed 256 = .ok (.aload_n 0, 1) := by decide +kernel
theorem dX12_shed_257 : decode cX12_shed 257 = .ok (.getfield 252, 3) := by decide +kernel
theorem dX12_shed_260 : decode cX12_shed 260 = .ok (.putfield 329, 3) := by decide +kernel
theorem dX12_shed_263 : decode cX12_shed 263 = .ok (.aload_n 0, 1) := by decide +kernel
theorem dX12_shed_264 : decode cX12_shed 264 = .ok (.aload_n 0, 1) := by decide +kernel
theorem dX12_shed_265 : decode cX12_shed 265 = .ok (.getfield 301, 3) := by decide +kernel
theorem dX12_shed_268 : decode cX12_shed 268 = .ok (.putfield 332, 3) := by decide +kernel
theorem dX12_shed_271 : decode cX12_shed 271 = .ok (.aload_n 0, 1) := by decide +kernel
theorem dX12_shed_272 : decode cX12_shed 272 = .ok (.aload_n 0, 1) := by decide +kernel
theorem dX12_shed_273 : decode cX12_shed 273 = .ok (.getfield 268, 3) := by decide +kernel
theorem dX12_shed_276 : decode cX12_shed 276 = .ok (.putfield 335, 3) := by decide +kernel
theorem dX12_shed_279 : decode cX12_shed 279 = .ok (.aload_n 0, 1) := by decide +kernel
theorem dX12_shed_280 : decode cX12_shed 280 = .ok (.aload_n 0, 1) := by decide +kernel
theorem dX12_shed_281 : decode cX12_shed 281 = .ok (.getfield 310, 3) := by decide +kernel
theorem dX12_shed_284 : decode cX12_shed 284 = .ok (.putfield 31, 3) := by decide +kernel
theorem dX12_shed_287 : decode cX12_shed 287 = .ok (.aload_n 0, 1) := by decide +kernel
theorem dX12_shed_288 : decode cX12_shed 288 = .ok (.aload_n 0, 1) := by decide +kernel
theorem dX12_shed_289 : decode cX12_shed 289 = .ok (.getfield 307, 3) := by decide +kernel
theorem dX12_shed_292 : decode cX12_shed 292 = .ok (.putfield 34, 3) := by decide +kernel
theorem dX12_shed_295 : decode cX12_shed 295 = .ok (.aload_n 0, 1) := by decide +kernel
theorem dX12_shed_296 : decode cX12_shed 296 = .ok (.aload_n 0, 1) := by decide +kernel
theorem dX12_shed_297 : decode cX12_shed 297 = .ok (.getfield 62, 3) := by decide +kernel
theorem dX12_shed_300 : decode cX12_shed 300 = .ok (.aload_n 0, 1) := by decide +kernel
theorem dX12_shed_301 : decode cX12_shed 301 = .ok (.getfield 37, 3) := by decide +kernel
theorem dX12_shed_304 : decode cX12_shed 304 = .ok (.invokevirtual 338, 3) := by decide +kernel
theorem dX12_shed_307 : decode cX12_shed 307 = .ok (.aload_n 0, 1) := by decide +kernel
theorem dX12_shed_308 : decode cX12_shed 308 = .ok (.aload_n 0, 1) := by decide +kernel
theorem dX12_shed_309 : decode cX12_shed 309 = .ok (.getfield 65, 3) := by decide +kernel
theorem dX12_shed_312 : decode cX12_shed 312 = .ok (.aload_n 0, 1) := by decide +kernel
theorem dX12_shed_313 : decode cX12_shed 313 = .ok (.getfield 41, 3) := by decide +kernel
theorem dX12_shed_316 : decode cX12_shed 316 = .ok (.invokevirtual 338, 3) := by decide +kernel
theorem dX12_shed_319 : decode cX12_shed 319 = .ok (.aload_n 0, 1) := by decide +kernel
theorem dX12_shed_320 : decode cX12_shed 320 = .ok (.aload_n 0, 1) := by decide +kernel
theorem dX12_shed_321 : decode cX12_shed 321 = .ok (.getfield 68, 3) := by decide +kernel
theorem dX12_shed_324 : decode cX12_shed 324 = .ok (.aload_n 0, 1) := by decide +kernel
theorem dX12_shed_325 : decode cX12_shed 325 = .ok (.getfield 44, 3) := by decide +kernel
theorem dX12_shed_328 : decode cX12_shed 328 = .ok (.invokevirtual 338, 3) := by decide +kernel
theorem dX12_shed_331 : decode cX12_shed 331 = .ok (.aload_n 0, 1) := by decide +kernel
theorem dX12_shed_332 : decode cX12_shed 332 = .ok (.aload_n 0, 1) := by decide +kernel
theorem dX12_shed_333 : decode cX12_shed 333 = .ok (.getfield 71, 3) := by decide +kernel
theorem dX12_shed_336 : decode cX12_shed 336 = .ok (.aload_n 0, 1) := by decide +kernel
theorem dX12_shed_337 : decode cX12_shed 337 = .ok (.getfield 47, 3) := by decide +kernel
theorem dX12_shed_340 : decode cX12_shed 340 = .ok (.invokevirtual 338, 3) := by decide +kernel
theorem dX12_shed_343 : decode cX12_shed 343 = .ok (.aload_n 0, 1) := by decide +kernel
theorem dX12_shed_344 : decode cX12_shed 344 = .ok (.aload_n 0, 1) := by decide +kernel
theorem dX12_shed_345 : decode cX12_shed 345 = .ok (.getfield 74, 3) := by decide +kernel
theorem dX12_shed_348 : decode cX12_shed 348 = .ok (.aload_n 0, 1) := by decide +kernel
theorem dX12_shed_349 : decode cX12_shed 349 = .ok (.getfield 50, 3) := by decide +kernel
theorem dX12_shed_352 : decode cX12_shed 352 = .ok (.invokevirtual 338, 3) := by decide +kernel
theorem dX12_shed_355 : decode cX12_shed 355 = .ok (.aload_n 0, 1) := by decide +kernel
theorem dX12_shed_356 : decode cX12_shed 356 = .ok (.invokevirtual 124, 3) := by decide +kernel
theorem dX12_shed_359 : decode cX12_shed 359 = .ok (.aload_n 0, 1) := by decide +kernel
theorem dX12_shed_360 : decode cX12_shed 360 = .ok (.iconst 0, 1) := by decide +kernel
theorem dX12_shed_361 : decode cX12_shed 361 = .ok (.putfield 342, 3) := by decide +kernel
theorem dX12_shed_364 : decode cX12_shed 364 = .ok (.aload_n 0, 1) := by decide +kernel
theorem dX12_shed_365 : decode cX12_shed 365 = .ok (.iconst 0, 1) := by decide +kernel
theorem dX12_shed_366 : decode cX12_shed 366 = .ok (.putfield 345, 3) := by decide +kernel
theorem dX12_shed_369 : decode cX12_shed 369 = .ok (.iconst 0, 1) := by decide +kernel
theorem dX12_shed_370 : decode cX12_shed 370 = .ok (.ireturn, 1) := by decide +kernel
theorem dX12_fault_0 : decode cX12_fault 0 = .ok (.aload_n 0, 1) := by decide +kernel
theorem dX12_fault_1 : decode cX12_fault 1 = .ok (.iconst 0, 1) := by decide +kernel
theorem dX12_fault_2 : decode cX12_fault 2 = .ok (.putfield 127, 3) := by decide +kernel
theorem dX12_fault_5 : decode cX12_fault 5 = .ok (.aload_n 0, 1) := by decide +kernel
theorem dX12_fault_6 : decode cX12_fault 6 = .ok (.getfield 56, 3) := by decide +kernel
theorem dX12_fault_9 : decode cX12_fault 9 = .ok (.ireturn, 1) := by decide +kernel
theorem dX12_count_0 : decode cX12_count 0 = .ok (.aload_n 0, 1) := by decide +kernel
theorem dX12_count_1 : decode cX12_count 1 = .ok (.iconst 0, 1) := by decide +kernel
theorem dX12_count_2 : decode cX12_count 2 = .ok (.putfield 127, 3) := by decide +kernel
theorem dX12_count_5 : decode cX12_count 5 = .ok (.aload_n 0, 1) := by decide +kernel
theorem dX12_count_6 : decode cX12_count 6 = .ok (.iload_n 1, 1) := by decide +kernel
theorem dX12_count_7 : decode cX12_count 7 = .ok (.iconst 0, 1) := by decide +kernel
theorem dX12_count_8 : decode cX12_count 8 = .ok (.bipush 20, 2) := by decide +kernel
theorem dX12_count_10 : decode cX12_count 10 = .ok (.invokestatic 348, 3) := by decide +kernel
theorem dX12_count_13 : decode cX12_count 13 = .ok (.iconst 1, 1) := by decide +kernel
theorem dX12_count_14 : decode cX12_count 14 = .ok (.invokevirtual 316, 3) := by decide +kernel
theorem dX12_count_17 : decode cX12_count 17 = .ok (.ifCond .ne 5, 3) := by decide +kernel
theorem dX12_count_20 : decode cX12_count 20 = .ok (.iconst 0, 1) := by decide +kernel
theorem dX12_count_21 : decode cX12_count 21 = .ok (.ireturn, 1) := by decide +kernel
theorem dX12_count_22 : decode cX12_count 22 = .ok (.iload_n 1, 1) := by decide +kernel
theorem dX12_count_23 : decode cX12_count 23 = .ok (.tableswitch 164 0 18 #[89, 94, 99, 104, 109, 114, 119, 124, 129, 134, 139, 164, 164, 164, 164, 144, 149, 154, 159], 89) := by decide +kernel
theorem dX12_count_112 : decode cX12_count 112 = .ok (.aload_n 0, 1) := by decide +kernel
theorem dX12_count_113 : decode cX12_count 113 = .ok (.getfield 7, 3) := by decide +kernel
theorem dX12_count_116 : decode cX12_count 116 = .ok (.ireturn, 1) := by decide +kernel
theorem dX12_count_117 : decode cX12_count 117 = .ok (.aload_n 0, 1) := by decide +kernel
theorem dX12_count_118 : decode cX12_count 118 = .ok (.getfield 13, 3) := by decide +kernel
theorem dX12_count_121 : decode cX12_count 121 = .ok (.ireturn, 1) := by decide +kernel
theorem dX12_count_122 : decode cX12_count 122 = .ok (.aload_n 0, 1) := by decide +kernel
theorem dX12_count_123 : decode cX12_count 123 = .ok (.getfield 16, 3) := by decide +kernel
theorem dX12_count_126 : decode cX12_count 126 = .ok (.ireturn, 1) := by decide +kernel
theorem dX12_count_127 : decode cX12_count 127 = .ok (.aload_n 0, 1) := by decide +kernel
theorem dX12_count_128 : decode cX12_count 128 = .ok (.getfield 19, 3) := by decide +kernel
theorem dX12_count_131 : decode cX12_count 131 = .ok (.ireturn, 1) := by decide +kernel
theorem dX12_count_132 : decode cX12_count 132 = .ok (.aload_n 0, 1) := by decide +kernel
theorem dX12_count_133 : decode cX12_count 133 = .ok (.getfield 22, 3) := by decide +kernel
theorem dX12_count_136 : decode cX12_count 136 = .ok (.ireturn, 1) := by decide +kernel
theorem dX12_count_137 : decode cX12_count 137 = .ok (.aload_n 0, 1) := by decide +kernel
theorem dX12_count_138 : decode cX12_count 138 = .ok (.getfield 326, 3) := by decide +kernel
theorem dX12_count_141 : decode cX12_count 141 = .ok (.ireturn, 1) := by decide +kernel
theorem dX12_count_142 : decode cX12_count 142 = .ok (.aload_n 0, 1) := by decide +kernel
theorem dX12_count_143 : decode cX12_count 143 = .ok (.getfield 25, 3) := by decide +kernel
theorem dX12_count_146 : decode cX12_count 146 = .ok (.ireturn, 1) := by decide +kernel
theorem dX12_count_147 : decode cX12_count 147 = .ok (.aload_n 0, 1) := by decide +kernel
theorem dX12_count_148 : decode cX12_count 148 = .ok (.getfield 28, 3) := by decide +kernel
theorem dX12_count_151 : decode cX12_count 151 = .ok (.ireturn, 1) := by decide +kernel
theorem dX12_count_152 : decode cX12_count 152 = .ok (.aload_n 0, 1) := by decide +kernel
theorem dX12_count_153 : decode cX12_count 153 = .ok (.getfield 329, 3) := by decide +kernel
theorem dX12_count_156 : decode cX12_count 156 = .ok (.ireturn, 1) := by decide +kernel
theorem dX12_count_157 : decode cX12_count 157 = .ok (.aload_n 0, 1) := by decide +kernel
theorem dX12_count_158 : decode cX12_count 158 = .ok (.getfield 332, 3) := by decide +kernel
theorem dX12_count_161 : decode cX12_count 161 = .ok (.ireturn, 1) := by decide +kernel
theorem dX12_count_162 : decode cX12_count 162 = .ok (.aload_n 0, 1) := by decide +kernel
theorem dX12_count_163 : decode cX12_count 163 = .ok (.getfield 335, 3) := by decide +kernel
theorem dX12_count_166 : decode cX12_count 166 = .ok (.ireturn, 1) := by decide +kernel
theorem dX12_count_167 : decode cX12_count 167 = .ok (.aload_n 0, 1) := by decide +kernel
theorem dX12_count_168 : decode cX12_count 168 = .ok (.getfield 352, 3) := by decide +kernel
theorem dX12_count_171 : decode cX12_count 171 = .ok (.ireturn, 1) := by decide +kernel
theorem dX12_count_172 : decode cX12_count 172 = .ok (.aload_n 0, 1) := by decide +kernel
theorem dX12_count_173 : decode cX12_count 173 = .ok (.getfield 355, 3) := by decide +kernel
theorem dX12_count_176 : decode cX12_count 176 = .ok (.ireturn, 1) := by decide +kernel
theorem dX12_count_177 : decode cX12_count 177 = .ok (.aload_n 0, 1) := by decide +kernel
theorem dX12_count_178 : decode cX12_count 178 = .ok (.getfield 358, 3) := by decide +kernel
theorem dX12_count_181 : decode cX12_count 181 = .ok (.ireturn, 1) := by decide +kernel
theorem dX12_count_182 : decode cX12_count 182 = .ok (.aload_n 0, 1) := by decide +kernel
theorem dX12_count_183 : decode cX12_count 183 = .ok (.getfield 130, 3) := by decide +kernel
theorem dX12_count_186 : decode cX12_count 186 = .ok (.ireturn, 1) := by decide +kernel
theorem dX12_count_187 : decode cX12_count 187 = .ok (.iload_n 1, 1) := by decide +kernel
theorem dX12_count_188 : decode cX12_count 188 = .ok (.bipush 15, 2) := by decide +kernel
theorem dX12_count_190 : decode cX12_count 190 = .ok (.if_icmp .ge 15, 3) := by decide +kernel
theorem dX12_count_193 : decode cX12_count 193 = .ok (.aload_n 0, 1) := by decide +kernel
theorem dX12_count_194 : decode cX12_count 194 = .ok (.getfield 41, 3) := by decide +kernel
theorem dX12_count_197 : decode cX12_count 197 = .ok (.iload_n 1, 1) := by decide +kernel
theorem dX12_count_198 : decode cX12_count 198 = .ok (.bipush 11, 2) := by decide +kernel
theorem dX12_count_200 : decode cX12_count 200 = .ok (.isub, 1) := by decide +kernel
theorem dX12_count_201 : decode cX12_count 201 = .ok (.iaload, 1) := by decide +kernel
theorem dX12_count_202 : decode cX12_count 202 = .ok (.goto 12, 3) := by decide +kernel
theorem dX12_count_205 : decode cX12_count 205 = .ok (.aload_n 0, 1) := by decide +kernel
theorem dX12_count_206 : decode cX12_count 206 = .ok (.getfield 59, 3) := by decide +kernel
theorem dX12_count_209 : decode cX12_count 209 = .ok (.iload_n 1, 1) := by decide +kernel
theorem dX12_count_210 : decode cX12_count 210 = .ok (.bipush 19, 2) := by decide +kernel
theorem dX12_count_212 : decode cX12_count 212 = .ok (.isub, 1) := by decide +kernel
theorem dX12_count_213 : decode cX12_count 213 = .ok (.iaload, 1) := by decide +kernel
theorem dX12_count_214 : decode cX12_count 214 = .ok (.ireturn, 1) := by decide +kernel
theorem dX12_isHole_0 : decode cX12_isHole 0 = .ok (.aload_n 0, 1) := by decide +kernel
theorem dX12_isHole_1 : decode cX12_isHole 1 = .ok (.iload_n 1, 1) := by decide +kernel
theorem dX12_isHole_2 : decode cX12_isHole 2 = .ok (.ifCond .lt 15, 3) := by decide +kernel
theorem dX12_isHole_5 : decode cX12_isHole 5 = .ok (.iload_n 1, 1) := by decide +kernel
theorem dX12_isHole_6 : decode cX12_isHole 6 = .ok (.aload_n 0, 1) := by decide +kernel
theorem dX12_isHole_7 : decode cX12_isHole 7 = .ok (.getfield 329, 3) := by decide +kernel
theorem dX12_isHole_10 : decode cX12_isHole 10 = .ok (.if_icmp .ge 7, 3) := by decide +kernel
theorem dX12_isHole_13 : decode cX12_isHole 13 = .ok (.iconst 1, 1) := by decide +kernel
theorem dX12_isHole_14 : decode cX12_isHole 14 = .ok (.goto 4, 3) := by decide +kernel
theorem dX12_isHole_17 : decode cX12_isHole 17 = .ok (.iconst 0, 1) := by decide +kernel
theorem dX12_isHole_18 : decode cX12_isHole 18 = .ok (.iconst 1, 1) := by decide +kernel
theorem dX12_isHole_19 : decode cX12_isHole 19 = .ok (.invokevirtual 316, 3) := by decide +kernel
theorem dX12_isHole_22 : decode cX12_isHole 22 = .ok (.ireturn, 1) := by decide +kernel
theorem dX12_isInch_0 : decode cX12_isInch 0 = .ok (.iload_n 1, 1) := by decide +kernel
theorem dX12_isInch_1 : decode cX12_isInch 1 = .ok (.ifCond .lt 15, 3) := by decide +kernel
theorem dX12_isInch_4 : decode cX12_isInch 4 = .ok (.iload_n 1, 1) := by decide +kernel
theorem dX12_isInch_5 : decode cX12_isInch 5 = .ok (.aload_n 0, 1) := by decide +kernel
theorem dX12_isInch_6 : decode cX12_isInch 6 = .ok (.getfield 7, 3) := by decide +kernel
theorem dX12_isInch_9 : decode cX12_isInch 9 = .ok (.if_icmp .ge 7, 3) := by decide +kernel
theorem dX12_isInch_12 : decode cX12_isInch 12 = .ok (.iconst 1, 1) := by decide +kernel
theorem dX12_isInch_13 : decode cX12_isInch 13 = .ok (.goto 4, 3) := by decide +kernel
theorem dX12_isInch_16 : decode cX12_isInch 16 = .ok (.iconst 0, 1) := by decide +kernel
theorem dX12_isInch_17 : decode cX12_isInch 17 = .ok (.ireturn, 1) := by decide +kernel
theorem dX12_isWhat_0 : decode cX12_isWhat 0 = .ok (.aload_n 0, 1) := by decide +kernel
theorem dX12_isWhat_1 : decode cX12_isWhat 1 = .ok (.iload_n 1, 1) := by decide +kernel
theorem dX12_isWhat_2 : decode cX12_isWhat 2 = .ok (.iconst 0, 1) := by decide +kernel
theorem dX12_isWhat_3 : decode cX12_isWhat 3 = .ok (.iload_n 2, 1) := by decide +kernel
theorem dX12_isWhat_4 : decode cX12_isWhat 4 = .ok (.invokestatic 348, 3) := by decide +kernel
theorem dX12_isWhat_7 : decode cX12_isWhat 7 = .ok (.iconst 1, 1) := by decide +kernel
theorem dX12_isWhat_8 : decode cX12_isWhat 8 = .ok (.invokevirtual 316, 3) := by decide +kernel
theorem dX12_isWhat_11 : decode cX12_isWhat 11 = .ok (.ireturn, 1) := by decide +kernel
theorem dX12_hole_0 : decode cX12_hole 0 = .ok (.aload_n 0, 1) := by decide +kernel
theorem dX12_hole_1 : decode cX12_hole 1 = .ok (.iconst 0, 1) := by decide +kernel
theorem dX12_hole_2 : decode cX12_hole 2 = .ok (.putfield 127, 3) := by decide +kernel
theorem dX12_hole_5 : decode cX12_hole 5 = .ok (.aload_n 0, 1) := by decide +kernel
theorem dX12_hole_6 : decode cX12_hole 6 = .ok (.iload_n 1, 1) := by decide +kernel
theorem dX12_hole_7 : decode cX12_hole 7 = .ok (.invokevirtual 361, 3) := by decide +kernel
theorem dX12_hole_10 : decode cX12_hole 10 = .ok (.ifCond .eq 12, 3) := by decide +kernel
theorem dX12_hole_13 : decode cX12_hole 13 = .ok (.aload_n 0, 1) := by decide +kernel
theorem dX12_hole_14 : decode cX12_hole 14 = .ok (.iload_n 2, 1) := by decide +kernel
theorem dX12_hole_15 : decode cX12_hole 15 = .ok (.iconst 4, 1) := by decide +kernel
theorem dX12_hole_16 : decode cX12_hole 16 = .ok (.invokevirtual 364, 3) := by decide +kernel
theorem dX12_hole_19 : decode cX12_hole 19 = .ok (.ifCond .ne 5, 3) := by decide +kernel
theorem dX12_hole_22 : decode cX12_hole 22 = .ok (.iconst 0, 1) := by decide +kernel
theorem dX12_hole_23 : decode cX12_hole 23 = .ok (.ireturn, 1) := by decide +kernel
theorem dX12_hole_24 : decode cX12_hole 24 = .ok (.iload_n 2, 1) := by decide +kernel
theorem dX12_hole_25 : decode cX12_hole 25 = .ok (.iconst 4, 1) := by decide +kernel
theorem dX12_hole_26 : decode cX12_hole 26 = .ok (.if_icmp .ge 16, 3) := by decide +kernel
theorem dX12_hole_29 : decode cX12_hole 29 = .ok (.aload_n 0, 1) := by decide +kernel
theorem dX12_hole_30 : decode cX12_hole 30 = .ok (.getfield 37, 3) := by decide +kernel
theorem dX12_hole_33 : decode cX12_hole 33 = .ok (.iconst 4, 1) := by decide +kernel
theorem dX12_hole_34 : decode cX12_hole 34 = .ok (.iload_n 1, 1) := by decide +kernel
theorem dX12_hole_35 : decode cX12_hole 35 = .ok (.imul, 1) := by decide +kernel
theorem dX12_hole_36 : decode cX12_hole 36 = .ok (.iload_n 2, 1) := by decide +kernel
theorem dX12_hole_37 : decode cX12_hole 37 = .ok (.iadd, 1) := by decide +kernel
theorem dX12_hole_38 : decode cX12_hole 38 = .ok (.iaload, 1) := by decide +kernel
theorem dX12_hole_39 : decode cX12_hole 39 = .ok (.goto 11, 3) := by decide +kernel
theorem dX12_hole_42 : decode cX12_hole 42 = .ok (.aload_n 0, 1) := by decide +kernel
theorem dX12_hole_43 : decode cX12_hole 43 = .ok (.getfield 368, 3) := by decide +kernel
theorem dX12_hole_46 : decode cX12_hole 46 = .ok (.iload_n 1, 1) := by decide +kernel
theorem dX12_hole_47 : decode cX12_hole 47 = .ok (.ishr, 1) := by decide +kernel
theorem dX12_hole_48 : decode cX12_hole 48 = .ok (.iconst 1, 1) := by decide +kernel
theorem dX12_hole_49 : decode cX12_hole 49 = .ok (.iand, 1) := by decide +kernel
theorem dX12_hole_50 : decode cX12_hole 50 = .ok (.ireturn, 1) := by decide +kernel
theorem dX12_placesOf_0 : decode cX12_placesOf 0 = .ok (.iload_n 1, 1) := by decide +kernel
theorem dX12_placesOf_1 : decode cX12_placesOf 1 = .ok (.iconst 1, 1) := by decide +kernel
theorem dX12_placesOf_2 : decode cX12_placesOf 2 = .ok (.if_icmp .ne 12, 3) := by decide +kernel
theorem dX12_placesOf_5 : decode cX12_placesOf 5 = .ok (.iconst 2, 1) := by decide +kernel
theorem dX12_placesOf_6 : decode cX12_placesOf 6 = .ok (.aload_n 0, 1) := by decide +kernel
theorem dX12_placesOf_7 : decode cX12_placesOf 7 = .ok (.getfield 7, 3) := by decide +kernel
theorem dX12_placesOf_10 : decode cX12_placesOf 10 = .ok (.imul, 1) := by decide +kernel
theorem dX12_placesOf_11 : decode cX12_placesOf 11 = .ok (.goto 16, 3) := by decide +kernel
theorem dX12_placesOf_14 : decode cX12_placesOf 14 = .ok (.iload_n 1, 1) := by decide +kernel
theorem dX12_placesOf_15 : decode cX12_placesOf 15 = .ok (.iconst 3, 1) := by decide +kernel
theorem dX12_placesOf_16 : decode cX12_placesOf 16 = .ok (.if_icmp .ne 7, 3) := by decide +kernel
theorem dX12_placesOf_19 : decode cX12_placesOf 19 = .ok (.iconst 1, 1) := by decide +kernel
theorem dX12_placesOf_20 : decode cX12_placesOf 20 = .ok (.goto 7, 3) := by decide +kernel
theorem dX12_placesOf_23 : decode cX12_placesOf 23 = .ok (.aload_n 0, 1) := by decide +kernel
theorem dX12_placesOf_24 : decode cX12_placesOf 24 = .ok (.getfield 7, 3) := by decide +kernel
theorem dX12_placesOf_27 : decode cX12_placesOf 27 = .ok (.ireturn, 1) := by decide +kernel
theorem dX12_mayMake_0 : decode cX12_mayMake 0 = .ok (.iload_n 1, 1) := by decide +kernel
theorem dX12_mayMake_1 : decode cX12_mayMake 1 = .ok (.iconst 4, 1) := by decide +kernel
theorem dX12_mayMake_2 : decode cX12_mayMake 2 = .ok (.irem, 1) := by decide +kernel
theorem dX12_mayMake_3 : decode cX12_mayMake 3 = .ok (.istore_n 2, 1) := by decide +kernel
theorem dX12_mayMake_4 : decode cX12_mayMake 4 = .ok (.iload_n 0, 1) := by decide +kernel
theorem dX12_mayMake_5 : decode cX12_mayMake 5 = .ok (.ifCond .ne 15, 3) := by decide +kernel
theorem dX12_mayMake_8 : decode cX12_mayMake 8 = .ok (.iload_n 2, 1) := by decide +kernel
theorem dX12_mayMake_9 : decode cX12_mayMake 9 = .ok (.ifCond .ne 7, 3) := by decide +kernel
theorem dX12_mayMake_12 : decode cX12_mayMake 12 = .ok (.iconst 1, 1) := by decide +kernel
theorem dX12_mayMake_13 : decode cX12_mayMake 13 = .ok (.goto 58, 3) := by decide +kernel
theorem dX12_mayMake_16 : decode cX12_mayMake 16 = .ok (.iconst 0, 1) := by decide +kernel
theorem dX12_mayMake_17 : decode cX12_mayMake 17 = .ok (.goto 54, 3) := by decide +kernel
theorem dX12_mayMake_20 : decode cX12_mayMake 20 = .ok (.iload_n 0, 1) := by decide +kernel
theorem dX12_mayMake_21 : decode cX12_mayMake 21 = .ok (.iconst 1, 1) := by decide +kernel
theorem dX12_mayMake_22 : decode cX12_mayMake 22 = .ok (.if_icmp .ne 21, 3) := by decide +kernel
theorem dX12_mayMake_25 : decode cX12_mayMake 25 = .ok (.iload_n 2, 1) := by decide +kernel
theorem dX12_mayMake_26 : decode cX12_mayMake 26 = .ok (.iconst 1, 1) := by decide +kernel
theorem dX12_mayMake_27 : decode cX12_mayMake 27 = .ok (.if_icmp .eq 8, 3) := by decide +kernel
theorem dX12_mayMake_30 : decode cX12_mayMake 30 = .ok (.iload_n 2, 1) := by decide +kernel
theorem dX12_mayMake_31 : decode cX12_mayMake 31 = .ok (.iconst 2, 1) := by decide +kernel
theorem dX12_mayMake_32 : decode cX12_mayMake 32 = .ok (.if_icmp .ne 7, 3) := by decide +kernel
theorem dX12_mayMake_35 : decode cX12_mayMake 35 = .ok (.iconst 1, 1) := by decide +kernel
theorem dX12_mayMake_36 : decode cX12_mayMake 36 = .ok (.goto 35, 3) := by decide +kernel
theorem dX12_mayMake_39 : decode cX12_mayMake 39 = .ok (.iconst 0, 1) := by decide +kernel
theorem dX12_mayMake_40 : decode cX12_mayMake 40 = .ok (.goto 31, 3) := by decide +kernel
theorem dX12_mayMake_43 : decode cX12_mayMake 43 = .ok (.iload_n 0, 1) := by decide +kernel
theorem dX12_mayMake_44 : decode cX12_mayMake 44 = .ok (.iconst 2, 1) := by decide +kernel
theorem dX12_mayMake_45 : decode cX12_mayMake 45 = .ok (.if_icmp .ne 16, 3) := by decide +kernel
theorem dX12_mayMake_48 : decode cX12_mayMake 48 = .ok (.iload_n 2, 1) := by decide +kernel
theorem dX12_mayMake_49 : decode cX12_mayMake 49 = .ok (.iconst 3, 1) := by decide +kernel
theorem dX12_mayMake_50 : decode cX12_mayMake 50 = .ok (.if_icmp .ne 7, 3) := by decide +kernel
theorem dX12_mayMake_53 : decode cX12_mayMake 53 = .ok (.iconst 1, 1) := by decide +kernel
theorem dX12_mayMake_54 : decode cX12_mayMake 54 = .ok (.goto 17, 3) := by decide +kernel
theorem dX12_mayMake_57 : decode cX12_mayMake 57 = .ok (.iconst 0, 1) := by decide +kernel
theorem dX12_mayMake_58 : decode cX12_mayMake 58 = .ok (.goto 13, 3) := by decide +kernel
theorem dX12_mayMake_61 : decode cX12_mayMake 61 = .ok (.iload_n 1, 1) := by decide +kernel
theorem dX12_mayMake_62 : decode cX12_mayMake 62 = .ok (.iconst 3, 1) := by decide +kernel
theorem dX12_mayMake_63 : decode cX12_mayMake 63 = .ok (.if_icmp .ne 7, 3) := by decide +kernel
theorem dX12_mayMake_66 : decode cX12_mayMake 66 = .ok (.iconst 1, 1) := by decide +kernel
theorem dX12_mayMake_67 : decode cX12_mayMake 67 = .ok (.goto 4, 3) := by decide +kernel
theorem dX12_mayMake_70 : decode cX12_mayMake 70 = .ok (.iconst 0, 1) := by decide +kernel
theorem dX12_mayMake_71 : decode cX12_mayMake 71 = .ok (.ireturn, 1) := by decide +kernel
theorem dX12_anew_0 : decode cX12_anew 0 = .ok (.aload_n 0, 1) := by decide +kernel
theorem dX12_anew_1 : decode cX12_anew 1 = .ok (.sipush 1000, 3) := by decide +kernel
theorem dX12_anew_4 : decode cX12_anew 4 = .ok (.aload_n 0, 1) := by decide +kernel
theorem dX12_anew_5 : decode cX12_anew 5 = .ok (.getfield 22, 3) := by decide +kernel
theorem dX12_anew_8 : decode cX12_anew 8 = .ok (.imul, 1) := by decide +kernel
theorem dX12_anew_9 : decode cX12_anew 9 = .ok (.putfield 352, 3) := by decide +kernel
theorem dX12_anew_12 : decode cX12_anew 12 = .ok (.aload_n 0, 1) := by decide +kernel
theorem dX12_anew_13 : decode cX12_anew 13 = .ok (.iconst 0, 1) := by decide +kernel
theorem dX12_anew_14 : decode cX12_anew 14 = .ok (.putfield 355, 3) := by decide +kernel
theorem dX12_anew_17 : decode cX12_anew 17 = .ok (.aload_n 0, 1) := by decide +kernel
theorem dX12_anew_18 : decode cX12_anew 18 = .ok (.iconst 0, 1) := by decide +kernel
theorem dX12_anew_19 : decode cX12_anew 19 = .ok (.putfield 368, 3) := by decide +kernel
theorem dX12_anew_22 : decode cX12_anew 22 = .ok (.aload_n 0, 1) := by decide +kernel
theorem dX12_anew_23 : decode cX12_anew 23 = .ok (.iconst 0, 1) := by decide +kernel
theorem dX12_anew_24 : decode cX12_anew 24 = .ok (.putfield 358, 3) := by decide +kernel
theorem dX12_anew_27 : decode cX12_anew 27 = .ok (.iconst 0, 1) := by decide +kernel
theorem dX12_anew_28 : decode cX12_anew 28 = .ok (.istore_n 1, 1) := by decide +kernel
theorem dX12_anew_29 : decode cX12_anew 29 = .ok (.iload_n 1, 1) := by decide +kernel
theorem dX12_anew_30 : decode cX12_anew 30 = .ok (.sipush 336, 3) := by decide +kernel
theorem dX12_anew_33 : decode cX12_anew 33 = .ok (.if_icmp .ge 78, 3) := by decide +kernel
theorem dX12_anew_36 : decode cX12_anew 36 = .ok (.aload_n 0, 1) := by decide +kernel
theorem dX12_anew_37 : decode cX12_anew 37 = .ok (.getfield 84, 3) := by decide +kernel
theorem dX12_anew_40 : decode cX12_anew 40 = .ok (.iload_n 1, 1) := by decide +kernel
theorem dX12_anew_41 : decode cX12_anew 41 = .ok (.lconst 0, 1) := by decide +kernel
theorem dX12_anew_42 : decode cX12_anew 42 = .ok (.lastore, 1) := by decide +kernel
theorem dX12_anew_43 : decode cX12_anew 43 = .ok (.iconst 0, 1) := by decide +kernel
theorem dX12_anew_44 : decode cX12_anew 44 = .ok (.istore_n 2, 1) := by decide +kernel
theorem dX12_anew_45 : decode cX12_anew 45 = .ok (.iload_n 2, 1) := by decide +kernel
theorem dX12_anew_46 : decode cX12_anew 46 = .ok (.iconst 4, 1) := by decide +kernel
theorem dX12_anew_47 : decode cX12_anew 47 = .ok (.if_icmp .ge 58, 3) := by decide +kernel
theorem dX12_anew_50 : decode cX12_anew 50 = .ok (.iload_n 1, 1) := by decide +kernel
theorem dX12_anew_51 : decode cX12_anew 51 = .ok (.iconst 4, 1) := by decide +kernel
theorem dX12_anew_52 : decode cX12_anew 52 = .ok (.aload_n 0, 1) := by decide +kernel
theorem dX12_anew_53 : decode cX12_anew 53 = .ok (.getfield 7, 3) := by decide +kernel
theorem dX12_anew_56 : decode cX12_anew 56 = .ok (.imul, 1) := by decide +kernel
theorem dX12_anew_57 : decode cX12_anew 57 = .ok (.if_icmp .ge 48, 3) := by decide +kernel
theorem dX12_anew_60 : decode cX12_anew 60 = .ok (.aload_n 0, 1) := by decide +kernel
theorem dX12_anew_61 : decode cX12_anew 61 = .ok (.getfield 84, 3) := by decide +kernel
theorem dX12_anew_64 : decode cX12_anew 64 = .ok (.iload_n 1, 1) := by decide +kernel
theorem dX12_anew_65 : decode cX12_anew 65 = .ok (.dup2, 1) := by decide +kernel
theorem dX12_anew_66 : decode cX12_anew 66 = .ok (.laload, 1) := by decide +kernel
theorem dX12_anew_67 : decode cX12_anew 67 = .ok (.iload_n 2, 1) := by decide +kernel
theorem dX12_anew_68 : decode cX12_anew 68 = .ok (.iload_n 1, 1) := by decide +kernel
theorem dX12_anew_69 : decode cX12_anew 69 = .ok (.invokestatic 371, 3) := by decide +kernel
theorem dX12_anew_72 : decode cX12_anew 72 = .ok (.ifCond .eq 24, 3) := by decide +kernel
theorem dX12_anew_75 : decode cX12_anew 75 = .ok (.aload_n 0, 1) := by decide +kernel
theorem dX12_anew_76 : decode cX12_anew 76 = .ok (.getfield 41, 3) := by decide +kernel
theorem dX12_anew_79 : decode cX12_anew 79 = .ok (.iload_n 2, 1) := by decide +kernel
theorem dX12_anew_80 : decode cX12_anew 80 = .ok (.iaload, 1) := by decide +kernel
theorem dX12_anew_81 : decode cX12_anew 81 = .ok (.i2l, 1) := by decide +kernel
theorem dX12_anew_82 : decode cX12_anew 82 = .ok (.ldc2_w 374, 3) := by decide +kernel
theorem dX12_anew_85 : decode cX12_anew 85 = .ok (.lmul, 1) := by decide +kernel
theorem dX12_anew_86 : decode cX12_anew 86 = .ok (.aload_n 0, 1) := by decide +kernel
theorem dX12_anew_87 : decode cX12_anew 87 = .ok (.iload_n 2, 1) := by decide +kernel
theorem dX12_anew_88 : decode cX12_anew 88 = .ok (.invokevirtual 376, 3) := by decide +kernel
theorem dX12_anew_91 : decode cX12_anew 91 = .ok (.i2l, 1) := by decide +kernel
theorem dX12_anew_92 : decode cX12_anew 92 = .ok (.ldiv, 1) := by decide +kernel
theorem dX12_anew_93 : decode cX12_anew 93 = .ok (.goto 4, 3) := by decide +kernel
theorem dX12_anew_96 : decode cX12_anew 96 = .ok (.lconst 0, 1) := by decide +kernel
theorem dX12_anew_97 : decode cX12_anew 97 = .ok (.ladd, 1) := by decide +kernel
theorem dX12_anew_98 : decode cX12_anew 98 = .ok (.lastore, 1) := by decide +kernel
theorem dX12_anew_99 : decode cX12_anew 99 = .ok (.iinc 2 1, 3) := by decide +kernel
theorem dX12_anew_102 : decode cX12_anew 102 = .ok (.goto (-57), 3) := by decide +kernel
theorem dX12_anew_105 : decode cX12_anew 105 = .ok (.iinc 1 1, 3) := by decide +kernel
theorem dX12_anew_108 : decode cX12_anew 108 = .ok (.goto (-79), 3) := by decide +kernel
theorem dX12_anew_111 : decode cX12_anew 111 = .ok (.return_, 1) := by decide +kernel
theorem dX12_keeps_0 : decode cX12_keeps 0 = .ok (.aload_n 0, 1) := by decide +kernel
theorem dX12_keeps_1 : decode cX12_keeps 1 = .ok (.getfield 358, 3) := by decide +kernel
theorem dX12_keeps_4 : decode cX12_keeps 4 = .ok (.bipush 40, 2) := by decide +kernel
theorem dX12_keeps_6 : decode cX12_keeps 6 = .ok (.if_icmp .ne 74, 3) := by decide +kernel
theorem dX12_keeps_9 : decode cX12_keeps 9 = .ok (.iconst 3, 1) := by decide +kernel
theorem dX12_keeps_10 : decode cX12_keeps 10 = .ok (.istore_n 1, 1) := by decide +kernel
theorem dX12_keeps_11 : decode cX12_keeps 11 = .ok (.iload_n 1, 1) := by decide +kernel
theorem dX12_keeps_12 : decode cX12_keeps 12 = .ok (.bipush 120, 2) := by decide +kernel
theorem dX12_keeps_14 : decode cX12_keeps 14 = .ok (.if_icmp .ge 23, 3) := by decide +kernel
theorem dX12_keeps_17 : decode cX12_keeps 17 = .ok (.aload_n 0, 1) := by decide +kernel
theorem dX12_keeps_18 : decode cX12_keeps 18 = .ok (.getfield 91, 3) := by decide +kernel
theorem dX12_keeps_21 : decode cX12_keeps 21 = .ok (.iload_n 1, 1) := by decide +kernel
theorem dX12_keeps_22 : decode cX12_keeps 22 = .ok (.iconst 3, 1) := by decide +kernel
theorem dX12_keeps_23 : decode cX12_keeps 23 = .ok (.isub, 1) := by decide +kernel
theorem dX12_keeps_24 : decode cX12_keeps 24 = .ok (.aload_n 0, 1) := by decide +kernel
theorem dX12_keeps_25 : decode cX12_keeps 25 = .ok (.getfield 91, 3) := by decide +kernel
theorem dX12_keeps_28 : decode cX12_keeps 28 = .ok (.iload_n 1, 1) := by decide +kernel
theorem dX12_keeps_29 : decode cX12_keeps 29 = .ok (.iaload, 1) := by decide +kernel
theorem dX12_keeps_30 : decode cX12_keeps 30 = .ok (.iastore, 1) := by decide +kernel
theorem dX12_keeps_31 : decode cX12_keeps 31 = .ok (.iinc 1 1, 3) := by decide +kernel
theorem dX12_keeps_34 : decode cX12_keeps 34 = .ok (.goto (-23), 3) := by decide +kernel
theorem dX12_keeps_37 : decode cX12_keeps 37 = .ok (.sipush 336, 3) := by decide +kernel
theorem dX12_keeps_40 : decode cX12_keeps 40 = .ok (.istore_n 1, 1) := by decide +kernel
theorem dX12_keeps_41 : decode cX12_keeps 41 = .ok (.iload_n 1, 1) := by decide +kernel
theorem dX12_keeps_42 : decode cX12_keeps 42 = .ok (.sipush 13440, 3) := by decide +kernel
theorem dX12_keeps_45 : decode cX12_keeps 45 = .ok (.if_icmp .ge 25, 3) := by decide +kernel
theorem dX12_keeps_48 : decode cX12_keeps 48 = .ok (.aload_n 0, 1) := by decide +kernel
theorem dX12_keeps_49 : decode cX12_keeps 49 = .ok (.getfield 88, 3) := by decide +kernel
theorem dX12_keeps_52 : decode cX12_keeps 52 = .ok (.iload_n 1, 1) := by decide +kernel
theorem dX12_keeps_53 : decode cX12_keeps 53 = .ok (.sipush 336, 3) := by decide +kernel
theorem dX12_keeps_56 : decode cX12_keeps 56 = .ok (.isub, 1) := by decide +kernel
theorem dX12_keeps_57 : decode cX12_keeps 57 = .ok (.aload_n 0, 1) := by decide +kernel
theorem dX12_keeps_58 : decode cX12_keeps 58 = .ok (.getfield 88, 3) := by decide +kernel
theorem dX12_keeps_61 : decode cX12_keeps 61 = .ok (.iload_n 1, 1) := by decide +kernel
theorem dX12_keeps_62 : decode cX12_keeps 62 = .ok (.laload, 1) := by decide +kernel
theorem dX12_keeps_63 : decode cX12_keeps 63 = .ok (.lastore, 1) := by decide +kernel
theorem dX12_keeps_64 : decode cX12_keeps 64 = .ok (.iinc 1 1, 3) := by decide +kernel
theorem dX12_keeps_67 : decode cX12_keeps 67 = .ok (.goto (-26), 3) := by decide +kernel
theorem dX12_keeps_70 : decode cX12_keeps 70 = .ok (.aload_n 0, 1) := by decide +kernel
theorem dX12_keeps_71 : decode cX12_keeps 71 = .ok (.dup, 1) := by decide +kernel
theorem dX12_keeps_72 : decode cX12_keeps 72 = .ok (.getfield 358, 3) := by decide +kernel
theorem dX12_keeps_75 : decode cX12_keeps 75 = .ok (.iconst 1, 1) := by decide +kernel
theorem dX12_keeps_76 : decode cX12_keeps 76 = .ok (.isub, 1) := by decide +kernel
theorem dX12_keeps_77 : decode cX12_keeps 77 = .ok (.putfield 358, 3) := by decide +kernel
theorem dX12_keeps_80 : decode cX12_keeps 80 = .ok (.aload_n 0, 1) := by decide +kernel
theorem dX12_keeps_81 : decode cX12_keeps 81 = .ok (.getfield 91, 3) := by decide +kernel
theorem dX12_keeps_84 : decode cX12_keeps 84 = .ok (.iconst 3, 1) := by decide +kernel
theorem dX12_keeps_85 : decode cX12_keeps 85 = .ok (.aload_n 0, 1) := by decide +kernel
theorem dX12_keeps_86 : decode cX12_keeps 86 = .ok (.getfield 358, 3) := by decide +kernel
theorem dX12_keeps_89 : decode cX12_keeps 89 = .ok (.imul, 1) := by decide +kernel
theorem dX12_keeps_90 : decode cX12_keeps 90 = .ok (.aload_n 0, 1) := by decide +kernel
theorem dX12_keeps_91 : decode cX12_keeps 91 = .ok (.getfield 352, 3) := by decide +kernel
theorem dX12_keeps_94 : decode cX12_keeps 94 = .ok (.iastore, 1) := by decide +kernel
theorem dX12_keeps_95 : decode cX12_keeps 95 = .ok (.aload_n 0, 1) := by decide +kernel
theorem dX12_keeps_96 : decode cX12_keeps 96 = .ok (.getfield 91, 3) := by decide +kernel
theorem dX12_keeps_99 : decode cX12_keeps 99 = .ok (.iconst 3, 1) := by decide +kernel
theorem dX12_keeps_100 : decode cX12_keeps 100 = .ok (.aload_n 0, 1) := by decide +kernel
theorem dX12_keeps_101 : decode cX12_keeps 101 = .ok (.getfield 358, 3) := by decide +kernel
theorem dX12_keeps_104 : decode cX12_keeps 104 = .ok (.imul, 1) := by decide +kernel
theorem dX12_keeps_105 : decode cX12_keeps 105 = .ok (.iconst 1, 1) := by decide +kernel
theorem dX12_keeps_106 : decode cX12_keeps 106 = .ok (.iadd, 1) := by decide +kernel
theorem dX12_keeps_107 : decode cX12_keeps 107 = .ok (.aload_n 0, 1) := by decide +kernel
theorem dX12_keeps_108 : decode cX12_keeps 108 = .ok (.getfield 355, 3) := by decide +kernel
theorem dX12_keeps_111 : decode cX12_keeps 111 = .ok (.iastore, 1) := by decide +kernel
theorem dX12_keeps_112 : decode cX12_keeps 112 = .ok (.aload_n 0, 1) := by decide +kernel
theorem dX12_keeps_113 : decode cX12_keeps 113 = .ok (.getfield 91, 3) := by decide +kernel
theorem dX12_keeps_116 : decode cX12_keeps 116 = .ok (.iconst 3, 1) := by decide +kernel
theorem dX12_keeps_117 : decode cX12_keeps 117 = .ok (.aload_n 0, 1) := by decide +kernel
theorem dX12_keeps_118 : decode cX12_keeps 118 = .ok (.getfield 358, 3) := by decide +kernel
theorem dX12_keeps_121 : decode cX12_keeps 121 = .ok (.imul, 1) := by decide +kernel
theorem dX12_keeps_122 : decode cX12_keeps 122 = .ok (.iconst 2, 1) := by decide +kernel
theorem dX12_keeps_123 : decode cX12_keeps 123 = .ok (.iadd, 1) := by decide +kernel
theorem dX12_keeps_124 : decode cX12_keeps 124 = .ok (.aload_n 0, 1) := by decide +kernel
theorem dX12_keeps_125 : decode cX12_keeps 125 = .ok (.getfield 368, 3) := by decide +kernel
theorem dX12_keeps_128 : decode cX12_keeps 128 = .ok (.iastore, 1) := by decide +kernel
theorem dX12_keeps_129 : decode cX12_keeps 129 = .ok (.iconst 0, 1) := by decide +kernel
theorem dX12_keeps_130 : decode cX12_keeps 130 = .ok (.istore_n 1, 1) := by decide +kernel
theorem dX12_keeps_131 : decode cX12_keeps 131 = .ok (.iload_n 1, 1) := by decide +kernel
theorem dX12_keeps_132 : decode cX12_keeps 132 = .ok (.sipush 336, 3) := by decide +kernel
theorem dX12_keeps_135 : decode cX12_keeps 135 = .ok (.if_icmp .ge 30, 3) := by decide +kernel
theorem dX12_keeps_138 : decode cX12_keeps 138 = .ok (.aload_n 0, 1) := by decide +kernel
theorem dX12_keeps_139 : decode cX12_keeps 139 = .ok (.getfield 88, 3) := by decide +kernel
theorem dX12_keeps_142 : decode cX12_keeps 142 = .ok (.sipush 336, 3) := by decide +kernel
theorem dX12_keeps_145 : decode cX12_keeps 145 = .ok (.aload_n 0, 1) := by decide +kernel
theorem dX12_keeps_146 : decode cX12_keeps 146 = .ok (.getfield 358, 3) := by decide +kernel
theorem dX12_keeps_149 : decode cX12_keeps 149 = .ok (.imul, 1) := by decide +kernel
theorem dX12_keeps_150 : decode cX12_keeps 150 = .ok (.iload_n 1, 1) := by decide +kernel
theorem dX12_keeps_151 : decode cX12_keeps 151 = .ok (.iadd, 1) := by decide +kernel
theorem dX12_keeps_152 : decode cX12_keeps 152 = .ok (.aload_n 0, 1) := by decide +kernel
theorem dX12_keeps_153 : decode cX12_keeps 153 = .ok (.getfield 84, 3) := by decide +kernel
theorem dX12_keeps_156 : decode cX12_keeps 156 = .ok (.iload_n 1, 1) := by decide +kernel
theorem dX12_keeps_157 : decode cX12_keeps 157 = .ok (.laload, 1) := by decide +kernel
theorem dX12_keeps_158 : decode cX12_keeps 158 = .ok (.lastore, 1) := by decide +kernel
theorem dX12_keeps_159 : decode cX12_keeps 159 = .ok (.iinc 1 1, 3) := by decide +kernel
theorem dX12_keeps_162 : decode cX12_keeps 162 = .ok (.goto (-31), 3) := by decide +kernel
theorem dX12_keeps_165 : decode cX12_keeps 165 = .ok (.aload_n 0, 1) := by decide +kernel
theorem dX12_keeps_166 : decode cX12_keeps 166 = .ok (.dup, 1) := by decide +kernel
theorem dX12_keeps_167 : decode cX12_keeps 167 = .ok (.getfield 358, 3) := by decide +kernel
theorem dX12_keeps_170 : decode cX12_keeps 170 = .ok (.iconst 1, 1) := by decide +kernel
theorem dX12_keeps_171 : decode cX12_keeps 171 = .ok (.iadd, 1) := by decide +kernel
theorem dX12_keeps_172 : decode cX12_keeps 172 = .ok (.putfield 358, 3) := by decide +kernel
theorem dX12_keeps_175 : decode cX12_keeps 175 = .ok (.return_, 1) := by decide +kernel
theorem dX12_refuses_0 : decode cX12_refuses 0 = .ok (.aload_n 0, 1) := by decide +kernel
theorem dX12_refuses_1 : decode cX12_refuses 1 = .ok (.getfield 59, 3) := by decide +kernel
theorem dX12_refuses_4 : decode cX12_refuses 4 = .ok (.iconst 1, 1) := by decide +kernel
theorem dX12_refuses_5 : decode cX12_refuses 5 = .ok (.dup2, 1) := by decide +kernel
theorem dX12_refuses_6 : decode cX12_refuses 6 = .ok (.iaload, 1) := by decide +kernel
theorem dX12_refuses_7 : decode cX12_refuses 7 = .ok (.iconst 1, 1) := by decide +kernel
theorem dX12_refuses_8 : decode cX12_refuses 8 = .ok (.iadd, 1) := by decide +kernel
theorem dX12_refuses_9 : decode cX12_refuses 9 = .ok (.iastore, 1) := by decide +kernel
theorem dX12_refuses_10 : decode cX12_refuses 10 = .ok (.iconst (-1), 1) := by decide +kernel
theorem dX12_refuses_11 : decode cX12_refuses 11 = .ok (.ireturn, 1) := by decide +kernel
theorem dX12_undo_0 : decode cX12_undo 0 = .ok (.aload_n 0, 1) := by decide +kernel
theorem dX12_undo_1 : decode cX12_undo 1 = .ok (.iconst 0, 1) := by decide +kernel
theorem dX12_undo_2 : decode cX12_undo 2 = .ok (.putfield 127, 3) := by decide +kernel
theorem dX12_undo_5 : decode cX12_undo 5 = .ok (.aload_n 0, 1) := by decide +kernel
theorem dX12_undo_6 : decode cX12_undo 6 = .ok (.getfield 358, 3) := by decide +kernel
theorem dX12_undo_9 : decode cX12_undo 9 = .ok (.ifCond .ne 5, 3) := by decide +kernel
theorem dX12_undo_12 : decode cX12_undo 12 = .ok (.iconst (-1), 1) := by decide +kernel
theorem dX12_undo_13 : decode cX12_undo 13 = .ok (.ireturn, 1) := by decide +kernel
theorem dX12_undo_14 : decode cX12_undo 14 = .ok (.aload_n 0, 1) := by decide +kernel
theorem dX12_undo_15 : decode cX12_undo 15 = .ok (.dup, 1) := by decide +kernel
theorem dX12_undo_16 : decode cX12_undo 16 = .ok (.getfield 358, 3) := by decide +kernel
theorem dX12_undo_19 : decode cX12_undo 19 = .ok (.iconst 1, 1) := by decide +kernel
theorem dX12_undo_20 : decode cX12_undo 20 = .ok (.isub, 1) := by decide +kernel
theorem dX12_undo_21 : decode cX12_undo 21 = .ok (.putfield 358, 3) := by decide +kernel
theorem dX12_undo_24 : decode cX12_undo 24 = .ok (.aload_n 0, 1) := by decide +kernel
theorem dX12_undo_25 : decode cX12_undo 25 = .ok (.aload_n 0, 1) := by decide +kernel
theorem dX12_undo_26 : decode cX12_undo 26 = .ok (.getfield 91, 3) := by decide +kernel
theorem dX12_undo_29 : decode cX12_undo 29 = .ok (.iconst 3, 1) := by decide +kernel
theorem dX12_undo_30 : decode cX12_undo 30 = .ok (.aload_n 0, 1) := by decide +kernel
theorem dX12_undo_31 : decode cX12_undo 31 = .ok (.getfield 358, 3) := by decide +kernel
theorem dX12_undo_34 : decode cX12_undo 34 = .ok (.imul, 1) := by decide +kernel
theorem dX12_undo_35 : decode cX12_undo 35 = .ok (.iaload, 1) := by decide +kernel
theorem dX12_undo_36 : decode cX12_undo 36 = .ok (.putfield 352, 3) := by decide +kernel
theorem dX12_undo_39 : decode cX12_undo 39 = .ok (.aload_n 0, 1) := by decide +kernel
theorem dX12_undo_40 : decode cX12_undo 40 = .ok (.aload_n 0, 1) := by decide +kernel
theorem dX12_undo_41 : decode cX12_undo 41 = .ok (.getfield 91, 3) := by decide +kernel
theorem dX12_undo_44 : decode cX12_undo 44 = .ok (.iconst 3, 1) := by decide +kernel
theorem dX12_undo_45 : decode cX12_undo 45 = .ok (.aload_n 0, 1) := by decide +kernel
theorem dX12_undo_46 : decode cX12_undo 46 = .ok (.getfield 358, 3) := by decide +kernel
theorem dX12_undo_49 : decode cX12_undo 49 = .ok (.imul, 1) := by decide +kernel
theorem dX12_undo_50 : decode cX12_undo 50 = .ok (.iconst 1, 1) := by decide +kernel
theorem dX12_undo_51 : decode cX12_undo 51 = .ok (.iadd, 1) := by decide +kernel
theorem dX12_undo_52 : decode cX12_undo 52 = .ok (.iaload, 1) := by decide +kernel
theorem dX12_undo_53 : decode cX12_undo 53 = .ok (.putfield 355, 3) := by decide +kernel
theorem dX12_undo_56 : decode cX12_undo 56 = .ok (.aload_n 0, 1) := by decide +kernel
theorem dX12_undo_57 : decode cX12_undo 57 = .ok (.aload_n 0, 1) := by decide +kernel
theorem dX12_undo_58 : decode cX12_undo 58 = .ok (.getfield 91, 3) := by decide +kernel
theorem dX12_undo_61 : decode cX12_undo 61 = .ok (.iconst 3, 1) := by decide +kernel
theorem dX12_undo_62 : decode cX12_undo 62 = .ok (.aload_n 0, 1) := by decide +kernel
theorem dX12_undo_63 : decode cX12_undo 63 = .ok (.getfield 358, 3) := by decide +kernel
theorem dX12_undo_66 : decode cX12_undo 66 = .ok (.imul, 1) := by decide +kernel
theorem dX12_undo_67 : decode cX12_undo 67 = .ok (.iconst 2, 1) := by decide +kernel
theorem dX12_undo_68 : decode cX12_undo 68 = .ok (.iadd, 1) := by decide +kernel
theorem dX12_undo_69 : decode cX12_undo 69 = .ok (.iaload, 1) := by decide +kernel
theorem dX12_undo_70 : decode cX12_undo 70 = .ok (.putfield 368, 3) := by decide +kernel
theorem dX12_undo_73 : decode cX12_undo 73 = .ok (.iconst 0, 1) := by decide +kernel
theorem dX12_undo_74 : decode cX12_undo 74 = .ok (.istore_n 1, 1) := by decide +kernel
theorem dX12_undo_75 : decode cX12_undo 75 = .ok (.iload_n 1, 1) := by decide +kernel
theorem dX12_undo_76 : decode cX12_undo 76 = .ok (.sipush 336, 3) := by decide +kernel
theorem dX12_undo_79 : decode cX12_undo 79 = .ok (.if_icmp .ge 30, 3) := by decide +kernel
theorem dX12_undo_82 : decode cX12_undo 82 = .ok (.aload_n 0, 1) := by decide +kernel
theorem dX12_undo_83 : decode cX12_undo 83 = .ok (.getfield 84, 3) := by decide +kernel
theorem dX12_undo_86 : decode cX12_undo 86 = .ok (.iload_n 1, 1) := by decide +kernel
theorem dX12_undo_87 : decode cX12_undo 87 = .ok (.aload_n 0, 1) := by decide +kernel
theorem dX12_undo_88 : decode cX12_undo 88 = .ok (.getfield 88, 3) := by decide +kernel
theorem dX12_undo_91 : decode cX12_undo 91 = .ok (.sipush 336, 3) := by decide +kernel
theorem dX12_undo_94 : decode cX12_undo 94 = .ok (.aload_n 0, 1) := by decide +kernel
theorem dX12_undo_95 : decode cX12_undo 95 = .ok (.getfield 358, 3) := by decide +kernel
theorem dX12_undo_98 : decode cX12_undo 98 = .ok (.imul, 1) := by decide +kernel
theorem dX12_undo_99 : decode cX12_undo 99 = .ok (.iload_n 1, 1) := by decide +kernel
theorem dX12_undo_100 : decode cX12_undo 100 = .ok (.iadd, 1) := by decide +kernel
theorem dX12_undo_101 : decode cX12_undo 101 = .ok (.laload, 1) := by decide +kernel
theorem dX12_undo_102 : decode cX12_undo 102 = .ok (.lastore, 1) := by decide +kernel
theorem dX12_undo_103 : decode cX12_undo 103 = .ok (.iinc 1 1, 3) := by decide +kernel
theorem dX12_undo_106 : decode cX12_undo 106 = .ok (.goto (-31), 3) := by decide +kernel
theorem dX12_undo_109 : decode cX12_undo 109 = .ok (.aload_n 0, 1) := by decide +kernel
theorem dX12_undo_110 : decode cX12_undo 110 = .ok (.getfield 358, 3) := by decide +kernel
theorem dX12_undo_113 : decode cX12_undo 113 = .ok (.ireturn, 1) := by decide +kernel
theorem dX12_works_0 : decode cX12_works 0 = .ok (.iload_n 0, 1) := by decide +kernel
theorem dX12_works_1 : decode cX12_works 1 = .ok (.tableswitch 105 4 10 #[43, 57, 71, 82, 93, 97, 101], 43) := by decide +kernel
theorem dX12_works_44 : decode cX12_works 44 = .ok (.iload_n 1, 1) := by decide +kernel
theorem dX12_works_45 : decode cX12_works 45 = .ok (.ifCond .eq 11, 3) := by decide +kernel
theorem dX12_works_48 : decode cX12_works 48 = .ok (.iload_n 2, 1) := by decide +kernel
theorem dX12_works_49 : decode cX12_works 49 = .ok (.ifCond .eq 7, 3) := by decide +kernel
theorem dX12_works_52 : decode cX12_works 52 = .ok (.iconst 1, 1) := by decide +kernel
theorem dX12_works_53 : decode cX12_works 53 = .ok (.goto 4, 3) := by decide +kernel
theorem dX12_works_56 : decode cX12_works 56 = .ok (.iconst 0, 1) := by decide +kernel
theorem dX12_works_57 : decode cX12_works 57 = .ok (.ireturn, 1) := by decide +kernel
theorem dX12_works_58 : decode cX12_works 58 = .ok (.iload_n 1, 1) := by decide +kernel
theorem dX12_works_59 : decode cX12_works 59 = .ok (.ifCond .ne 7, 3) := by decide +kernel
theorem dX12_works_62 : decode cX12_works 62 = .ok (.iload_n 2, 1) := by decide +kernel
theorem dX12_works_63 : decode cX12_works 63 = .ok (.ifCond .eq 7, 3) := by decide +kernel
theorem dX12_works_66 : decode cX12_works 66 = .ok (.iconst 1, 1) := by decide +kernel
theorem dX12_works_67 : decode cX12_works 67 = .ok (.goto 4, 3) := by decide +kernel
theorem dX12_works_70 : decode cX12_works 70 = .ok (.iconst 0, 1) := by decide +kernel
theorem dX12_works_71 : decode cX12_works 71 = .ok (.ireturn, 1) := by decide +kernel
theorem dX12_works_72 : decode cX12_works 72 = .ok (.iload_n 1, 1) := by decide +kernel
theorem dX12_works_73 : decode cX12_works 73 = .ok (.iload_n 2, 1) := by decide +kernel
theorem dX12_works_74 : decode cX12_works 74 = .ok (.if_icmp .ge 7, 3) := by decide +kernel
theorem dX12_works_77 : decode cX12_works 77 = .ok (.iconst 1, 1) := by decide +kernel
theorem dX12_works_78 : decode cX12_works 78 = .ok (.goto 4, 3) := by decide +kernel
theorem dX12_works_81 : decode cX12_works 81 = .ok (.iconst 0, 1) := by decide +kernel
theorem dX12_works_82 : decode cX12_works 82 = .ok (.ireturn, 1) := by decide +kernel
theorem dX12_works_83 : decode cX12_works 83 = .ok (.iload_n 1, 1) := by decide +kernel
theorem dX12_works_84 : decode cX12_works 84 = .ok (.iload_n 2, 1) := by decide +kernel
theorem dX12_works_85 : decode cX12_works 85 = .ok (.if_icmp .ne 7, 3) := by decide +kernel
theorem dX12_works_88 : decode cX12_works 88 = .ok (.iconst 1, 1) := by decide +kernel
theorem dX12_works_89 : decode cX12_works 89 = .ok (.goto 4, 3) := by decide +kernel
theorem dX12_works_92 : decode cX12_works 92 = .ok (.iconst 0, 1) := by decide +kernel
theorem dX12_works_93 : decode cX12_works 93 = .ok (.ireturn, 1) := by decide +kernel
theorem dX12_works_94 : decode cX12_works 94 = .ok (.iload_n 1, 1) := by decide +kernel
theorem dX12_works_95 : decode cX12_works 95 = .ok (.iload_n 2, 1) := by decide +kernel
theorem dX12_works_96 : decode cX12_works 96 = .ok (.iadd, 1) := by decide +kernel
theorem dX12_works_97 : decode cX12_works 97 = .ok (.ireturn, 1) := by decide +kernel
theorem dX12_works_98 : decode cX12_works 98 = .ok (.iload_n 1, 1) := by decide +kernel
theorem dX12_works_99 : decode cX12_works 99 = .ok (.iload_n 2, 1) := by decide +kernel
theorem dX12_works_100 : decode cX12_works 100 = .ok (.isub, 1) := by decide +kernel
theorem dX12_works_101 : decode cX12_works 101 = .ok (.ireturn, 1) := by decide +kernel
theorem dX12_works_102 : decode cX12_works 102 = .ok (.iload_n 1, 1) := by decide +kernel
theorem dX12_works_103 : decode cX12_works 103 = .ok (.iload_n 2, 1) := by decide +kernel
theorem dX12_works_104 : decode cX12_works 104 = .ok (.imul, 1) := by decide +kernel
theorem dX12_works_105 : decode cX12_works 105 = .ok (.ireturn, 1) := by decide +kernel
theorem dX12_works_106 : decode cX12_works 106 = .ok (.iload_n 2, 1) := by decide +kernel
theorem dX12_works_107 : decode cX12_works 107 = .ok (.ifCond .ne 7, 3) := by decide +kernel
theorem dX12_works_110 : decode cX12_works 110 = .ok (.iconst 0, 1) := by decide +kernel
theorem dX12_works_111 : decode cX12_works 111 = .ok (.goto 6, 3) := by decide +kernel
theorem dX12_works_114 : decode cX12_works 114 = .ok (.iload_n 1, 1) := by decide +kernel
theorem dX12_works_115 : decode cX12_works 115 = .ok (.iload_n 2, 1) := by decide +kernel
theorem dX12_works_116 : decode cX12_works 116 = .ok (.idiv, 1) := by decide +kernel
theorem dX12_works_117 : decode cX12_works 117 = .ok (.ireturn, 1) := by decide +kernel
