theorem dX9_init_0 : decode cX9_init 0 = .ok (.aload_n 0, 1) := by decide +kernel
theorem dX9_init_1 : decode cX9_init 1 = .ok (.invokespecial 3, 3) := by decide +kernel
theorem dX9_init_4 : decode cX9_init 4 = .ok (.aload_n 0, 1) := by decide +kernel
theorem dX9_init_5 : decode cX9_init 5 = .ok (.iconst (-1), 1) := by decide +kernel
theorem dX9_init_6 : decode cX9_init 6 = .ok (.putfield 9, 3) := by decide +kernel
theorem dX9_init_9 : decode cX9_init 9 = .ok (.aload_n 0, 1) := by decide +kernel
theorem dX9_init_10 : decode cX9_init 10 = .ok (.bipush 24, 2) := by decide +kernel
theorem dX9_init_12 : decode cX9_init 12 = .ok (.newarray .int, 2) := by decide +kernel
theorem dX9_init_14 : decode cX9_init 14 = .ok (.putfield 13, 3) := by decide +kernel
theorem dX9_init_17 : decode cX9_init 17 = .ok (.aload_n 0, 1) := by decide +kernel
theorem dX9_init_18 : decode cX9_init 18 = .ok (.bipush 24, 2) := by decide +kernel
theorem dX9_init_20 : decode cX9_init 20 = .ok (.newarray .int, 2) := by decide +kernel
theorem dX9_init_22 : decode cX9_init 22 = .ok (.putfield 17, 3) := by decide +kernel
theorem dX9_init_25 : decode cX9_init 25 = .ok (.aload_n 0, 1) := by decide +kernel
theorem dX9_init_26 : decode cX9_init 26 = .ok (.bipush 24, 2) := by decide +kernel
theorem dX9_init_28 : decode cX9_init 28 = .ok (.newarray .int, 2) := by decide +kernel
theorem dX9_init_30 : decode cX9_init 30 = .ok (.putfield 20, 3) := by decide +kernel
theorem dX9_init_33 : decode cX9_init 33 = .ok (.aload_n 0, 1) := by decide +kernel
theorem dX9_init_34 : decode cX9_init 34 = .ok (.bipush 24, 2) := by decide +kernel
theorem dX9_init_36 : decode cX9_init 36 = .ok (.newarray .int, 2) := by decide +kernel
theorem dX9_init_38 : decode cX9_init 38 = .ok (.putfield 23, 3) := by decide +kernel
theorem dX9_init_41 : decode cX9_init 41 = .ok (.aload_n 0, 1) := by decide +kernel
theorem dX9_init_42 : decode cX9_init 42 = .ok (.bipush 24, 2) := by decide +kernel
theorem dX9_init_44 : decode cX9_init 44 = .ok (.newarray .int, 2) := by decide +kernel
theorem dX9_init_46 : decode cX9_init 46 = .ok (.putfield 26, 3) := by decide +kernel
theorem dX9_init_49 : decode cX9_init 49 = .ok (.aload_n 0, 1) := by decide +kernel
theorem dX9_init_50 : decode cX9_init 50 = .ok (.bipush 24, 2) := by decide +kernel
theorem dX9_init_52 : decode cX9_init 52 = .ok (.newarray .int, 2) := by decide +kernel
theorem dX9_init_54 : decode cX9_init 54 = .ok (.putfield 29, 3) := by decide +kernel
theorem dX9_init_57 : decode cX9_init 57 = .ok (.aload_n 0, 1) := by decide +kernel
theorem dX9_init_58 : decode cX9_init 58 = .ok (.sipush 160, 3) := by decide +kernel
theorem dX9_init_61 : decode cX9_init 61 = .ok (.newarray .int, 2) := by decide +kernel
theorem dX9_init_63 : decode cX9_init 63 = .ok (.putfield 32, 3) := by decide +kernel
theorem dX9_init_66 : decode cX9_init 66 = .ok (.aload_n 0, 1) := by decide +kernel
theorem dX9_init_67 : decode cX9_init 67 = .ok (.sipush 1234, 3) := by decide +kernel
theorem dX9_init_70 : decode cX9_init 70 = .ok (.newarray .int, 2) := by decide +kernel
theorem dX9_init_72 : decode cX9_init 72 = .ok (.putfield 35, 3) := by decide +kernel
theorem dX9_init_75 : decode cX9_init 75 = .ok (.aload_n 0, 1) := by decide +kernel
theorem dX9_init_76 : decode cX9_init 76 = .ok (.sipush 1234, 3) := by decide +kernel
theorem dX9_init_79 : decode cX9_init 79 = .ok (.newarray .int, 2) := by decide +kernel
theorem dX9_init_81 : decode cX9_init 81 = .ok (.putfield 38, 3) := by decide +kernel
theorem dX9_init_84 : decode cX9_init 84 = .ok (.aload_n 0, 1) := by decide +kernel
theorem dX9_init_85 : decode cX9_init 85 = .ok (.sipush 12340, 3) := by decide +kernel
theorem dX9_init_88 : decode cX9_init 88 = .ok (.newarray .int, 2) := by decide +kernel
theorem dX9_init_90 : decode cX9_init 90 = .ok (.putfield 41, 3) := by decide +kernel
theorem dX9_init_93 : decode cX9_init 93 = .ok (.aload_n 0, 1) := by decide +kernel
theorem dX9_init_94 : decode cX9_init 94 = .ok (.sipush 900, 3) := by decide +kernel
theorem dX9_init_97 : decode cX9_init 97 = .ok (.newarray .byte, 2) := by decide +kernel
theorem dX9_init_99 : decode cX9_init 99 = .ok (.putfield 44, 3) := by decide +kernel
theorem dX9_init_102 : decode cX9_init 102 = .ok (.aload_n 0, 1) := by decide +kernel
theorem dX9_init_103 : decode cX9_init 103 = .ok (.bipush 16, 2) := by decide +kernel
theorem dX9_init_105 : decode cX9_init 105 = .ok (.newarray .int, 2) := by decide +kernel
theorem dX9_init_107 : decode cX9_init 107 = .ok (.putfield 48, 3) := by decide +kernel
theorem dX9_init_110 : decode cX9_init 110 = .ok (.aload_n 0, 1) := by decide +kernel
theorem dX9_init_111 : decode cX9_init 111 = .ok (.bipush 17, 2) := by decide +kernel
theorem dX9_init_113 : decode cX9_init 113 = .ok (.newarray .int, 2) := by decide +kernel
theorem dX9_init_115 : decode cX9_init 115 = .ok (.putfield 51, 3) := by decide +kernel
theorem dX9_init_118 : decode cX9_init 118 = .ok (.aload_n 0, 1) := by decide +kernel
theorem dX9_init_119 : decode cX9_init 119 = .ok (.bipush 17, 2) := by decide +kernel
theorem dX9_init_121 : decode cX9_init 121 = .ok (.newarray .int, 2) := by decide +kernel
theorem dX9_init_123 : decode cX9_init 123 = .ok (.putfield 54, 3) := by decide +kernel
theorem dX9_init_126 : decode cX9_init 126 = .ok (.aload_n 0, 1) := by decide +kernel
theorem dX9_init_127 : decode cX9_init 127 = .ok (.bipush 16, 2) := by decide +kernel
theorem dX9_init_129 : decode cX9_init 129 = .ok (.newarray .int, 2) := by decide +kernel
theorem dX9_init_131 : decode cX9_init 131 = .ok (.putfield 57, 3) := by decide +kernel
theorem dX9_init_134 : decode cX9_init 134 = .ok (.aload_n 0, 1) := by decide +kernel
theorem dX9_init_135 : decode cX9_init 135 = .ok (.bipush 16, 2) := by decide +kernel
theorem dX9_init_137 : decode cX9_init 137 = .ok (.newarray .int, 2) := by decide +kernel
theorem dX9_init_139 : decode cX9_init 139 = .ok (.putfield 60, 3) := by decide +kernel
theorem dX9_init_142 : decode cX9_init 142 = .ok (.aload_n 0, 1) := by decide +kernel
theorem dX9_init_143 : decode cX9_init 143 = .ok (.bipush 16, 2) := by decide +kernel
theorem dX9_init_145 : decode cX9_init 145 = .ok (.newarray .int, 2) := by decide +kernel
theorem dX9_init_147 : decode cX9_init 147 = .ok (.putfield 63, 3) := by decide +kernel
theorem dX9_init_150 : decode cX9_init 150 = .ok (.aload_n 0, 1) := by decide +kernel
theorem dX9_init_151 : decode cX9_init 151 = .ok (.bipush 16, 2) := by decide +kernel
theorem dX9_init_153 : decode cX9_init 153 = .ok (.newarray .int, 2) := by decide +kernel
theorem dX9_init_155 : decode cX9_init 155 = .ok (.putfield 66, 3) := by decide +kernel
theorem dX9_init_158 : decode cX9_init 158 = .ok (.aload_n 0, 1) := by decide +kernel
theorem dX9_init_159 : decode cX9_init 159 = .ok (.bipush 10, 2) := by decide +kernel
theorem dX9_init_161 : decode cX9_init 161 = .ok (.newarray .int, 2) := by decide +kernel
theorem dX9_init_163 : decode cX9_init 163 = .ok (.putfield 69, 3) := by decide +kernel
theorem dX9_init_166 : decode cX9_init 166 = .ok (.aload_n 0, 1) := by decide +kernel
theorem dX9_init_167 : decode cX9_init 167 = .ok (.bipush 31, 2) := by decide +kernel
theorem dX9_init_169 : decode cX9_init 169 = .ok (.newarray .int, 2) := by decide +kernel
theorem dX9_init_171 : decode cX9_init 171 = .ok (.putfield 72, 3) := by decide +kernel
theorem dX9_init_174 : decode cX9_init 174 = .ok (.return_, 1) := by decide +kernel
theorem dX9_thrown_0 : decode cX9_thrown 0 = .ok (.aload_n 0, 1) := by decide +kernel
theorem dX9_thrown_1 : decode cX9_thrown 1 = .ok (.getfield 75, 3) := by decide +kernel
theorem dX9_thrown_4 : decode cX9_thrown 4 = .ok (.ireturn, 1) := by decide +kernel
theorem dX9_refused_0 : decode cX9_refused 0 = .ok (.aload_n 0, 1) := by decide +kernel
theorem dX9_refused_1 : decode cX9_refused 1 = .ok (.iload_n 1, 1) := by decide +kernel
theorem dX9_refused_2 : decode cX9_refused 2 = .ok (.putfield 78, 3) := by decide +kernel
theorem dX9_refused_5 : decode cX9_refused 5 = .ok (.aload_n 0, 1) := by decide +kernel
theorem dX9_refused_6 : decode cX9_refused 6 = .ok (.iconst (-1), 1) := by decide +kernel
theorem dX9_refused_7 : decode cX9_refused 7 = .ok (.putfield 9, 3) := by decide +kernel
theorem dX9_refused_10 : decode cX9_refused 10 = .ok (.iconst (-1), 1) := by decide +kernel
theorem dX9_refused_11 : decode cX9_refused 11 = .ok (.ireturn, 1) := by decide +kernel
theorem dX9_good_0 : decode cX9_good 0 = .ok (.aload_n 0, 1) := by decide +kernel
theorem dX9_good_1 : decode cX9_good 1 = .ok (.iconst 0, 1) := by decide +kernel
theorem dX9_good_2 : decode cX9_good 2 = .ok (.putfield 78, 3) := by decide +kernel
theorem dX9_good_5 : decode cX9_good 5 = .ok (.aload_n 0, 1) := by decide +kernel
theorem dX9_good_6 : decode cX9_good 6 = .ok (.iconst (-1), 1) := by decide +kernel
theorem dX9_good_7 : decode cX9_good 7 = .ok (.putfield 9, 3) := by decide +kernel
theorem dX9_good_10 : decode cX9_good 10 = .ok (.iload_n 1, 1) := by decide +kernel
theorem dX9_good_11 : decode cX9_good 11 = .ok (.ireturn, 1) := by decide +kernel
theorem dX9_in_0 : decode cX9_in 0 = .ok (.iload_n 0, 1) := by decide +kernel
theorem dX9_in_1 : decode cX9_in 1 = .ok (.iload_n 1, 1) := by decide +kernel
theorem dX9_in_2 : decode cX9_in 2 = .ok (.if_icmp .lt 12, 3) := by decide +kernel
theorem dX9_in_5 : decode cX9_in 5 = .ok (.iload_n 0, 1) := by decide +kernel
theorem dX9_in_6 : decode cX9_in 6 = .ok (.iload_n 2, 1) := by decide +kernel
theorem dX9_in_7 : decode cX9_in 7 = .ok (.if_icmp .gt 7, 3) := by decide +kernel
theorem dX9_in_10 : decode cX9_in 10 = .ok (.iconst 1, 1) := by decide +kernel
theorem dX9_in_11 : decode cX9_in 11 = .ok (.goto 4, 3) := by decide +kernel
theorem dX9_in_14 : decode cX9_in 14 = .ok (.iconst 0, 1) := by decide +kernel
theorem dX9_in_15 : decode cX9_in 15 = .ok (.ireturn, 1) := by decide +kernel
theorem dX9_byteAt_0 : decode cX9_byteAt 0 = .ok (.iload_n 1, 1) := by decide +kernel
theorem dX9_byteAt_1 : decode cX9_byteAt 1 = .ok (.aload_n 0, 1) := by decide +kernel
theorem dX9_byteAt_2 : decode cX9_byteAt 2 = .ok (.getfield 81, 3) := by decide +kernel
theorem dX9_byteAt_5 : decode cX9_byteAt 5 = .ok (.if_icmp .ge 16, 3) := by decide +kernel
theorem dX9_byteAt_8 : decode cX9_byteAt 8 = .ok (.aload_n 0, 1) := by decide +kernel
theorem dX9_byteAt_9 : decode cX9_byteAt 9 = .ok (.getfield 44, 3) := by decide +kernel
theorem dX9_byteAt_12 : decode cX9_byteAt 12 = .ok (.iload_n 1, 1) := by decide +kernel
theorem dX9_byteAt_13 : decode cX9_byteAt 13 = .ok (.baload, 1) := by decide +kernel
theorem dX9_byteAt_14 : decode cX9_byteAt 14 = .ok (.sipush 255, 3) := by decide +kernel
theorem dX9_byteAt_17 : decode cX9_byteAt 17 = .ok (.iand, 1) := by decide +kernel
theorem dX9_byteAt_18 : decode cX9_byteAt 18 = .ok (.goto 4, 3) := by decide +kernel
theorem dX9_byteAt_21 : decode cX9_byteAt 21 = .ok (.iconst (-1), 1) := by decide +kernel
theorem dX9_byteAt_22 : decode cX9_byteAt 22 = .ok (.ireturn, 1) := by decide +kernel
theorem dX9_goOn_0 : decode cX9_goOn 0 = .ok (.aload_n 0, 1) := by decide +kernel
theorem dX9_goOn_1 : decode cX9_goOn 1 = .ok (.getfield 84, 3) := by decide +kernel
theorem dX9_goOn_4 : decode cX9_goOn 4 = .ok (.ifCond .le 4, 3) := by decide +kernel
theorem dX9_goOn_7 : decode cX9_goOn 7 = .ok (.return_, 1) := by decide +kernel
theorem dX9_goOn_8 : decode cX9_goOn 8 = .ok (.aload_n 0, 1) := by decide +kernel
theorem dX9_goOn_9 : decode cX9_goOn 9 = .ok (.aload_n 0, 1) := by decide +kernel
theorem dX9_goOn_10 : decode cX9_goOn 10 = .ok (.getfield 87, 3) := by decide +kernel
theorem dX9_goOn_13 : decode cX9_goOn 13 = .ok (.invokevirtual 90, 3) := by decide +kernel
theorem dX9_goOn_16 : decode cX9_goOn 16 = .ok (.bipush 32, 2) := by decide +kernel
theorem dX9_goOn_18 : decode cX9_goOn 18 = .ok (.if_icmp .ne 16, 3) := by decide +kernel
theorem dX9_goOn_21 : decode cX9_goOn 21 = .ok (.aload_n 0, 1) := by decide +kernel
theorem dX9_goOn_22 : decode cX9_goOn 22 = .ok (.dup, 1) := by decide +kernel
theorem dX9_goOn_23 : decode cX9_goOn 23 = .ok (.getfield 87, 3) := by decide +kernel
theorem dX9_goOn_26 : decode cX9_goOn 26 = .ok (.iconst 1, 1) := by decide +kernel
theorem dX9_goOn_27 : decode cX9_goOn 27 = .ok (.iadd, 1) := by decide +kernel
theorem dX9_goOn_28 : decode cX9_goOn 28 = .ok (.putfield 87, 3) := by decide +kernel
theorem dX9_goOn_31 : decode cX9_goOn 31 = .ok (.goto (-23), 3) := by decide +kernel
theorem dX9_goOn_34 : decode cX9_goOn 34 = .ok (.aload_n 0, 1) := by decide +kernel
theorem dX9_goOn_35 : decode cX9_goOn 35 = .ok (.aload_n 0, 1) := by decide +kernel
theorem dX9_goOn_36 : decode cX9_goOn 36 = .ok (.getfield 87, 3) := by decide +kernel
theorem dX9_goOn_39 : decode cX9_goOn 39 = .ok (.putfield 94, 3) := by decide +kernel
theorem dX9_goOn_42 : decode cX9_goOn 42 = .ok (.aload_n 0, 1) := by decide +kernel
theorem dX9_goOn_43 : decode cX9_goOn 43 = .ok (.aload_n 0, 1) := by decide +kernel
theorem dX9_goOn_44 : decode cX9_goOn 44 = .ok (.getfield 87, 3) := by decide +kernel
theorem dX9_goOn_47 : decode cX9_goOn 47 = .ok (.invokevirtual 90, 3) := by decide +kernel
theorem dX9_goOn_50 : decode cX9_goOn 50 = .ok (.istore_n 1, 1) := by decide +kernel
theorem dX9_goOn_51 : decode cX9_goOn 51 = .ok (.iload_n 1, 1) := by decide +kernel
theorem dX9_goOn_52 : decode cX9_goOn 52 = .ok (.iconst (-1), 1) := by decide +kernel
theorem dX9_goOn_53 : decode cX9_goOn 53 = .ok (.if_icmp .ne 11, 3) := by decide +kernel
theorem dX9_goOn_56 : decode cX9_goOn 56 = .ok (.aload_n 0, 1) := by decide +kernel
theorem dX9_goOn_57 : decode cX9_goOn 57 = .ok (.iconst 1, 1) := by decide +kernel
theorem dX9_goOn_58 : decode cX9_goOn 58 = .ok (.putfield 97, 3) := by decide +kernel
theorem dX9_goOn_61 : decode cX9_goOn 61 = .ok (.goto 44, 3) := by decide +kernel
theorem dX9_goOn_64 : decode cX9_goOn 64 = .ok (.iload_n 1, 1) := by decide +kernel
theorem dX9_goOn_65 : decode cX9_goOn 65 = .ok (.bipush 97, 2) := by decide +kernel
theorem dX9_goOn_67 : decode cX9_goOn 67 = .ok (.bipush 122, 2) := by decide +kernel
theorem dX9_goOn_69 : decode cX9_goOn 69 = .ok (.invokestatic 100, 3) := by decide +kernel
theorem dX9_goOn_72 : decode cX9_goOn 72 = .ok (.ifCond .eq 10, 3) := by decide +kernel
theorem dX9_goOn_75 : decode cX9_goOn 75 = .ok (.aload_n 0, 1) := by decide +kernel
theorem dX9_goOn_76 : decode cX9_goOn 76 = .ok (.invokevirtual 104, 3) := by decide +kernel
theorem dX9_goOn_79 : decode cX9_goOn 79 = .ok (.goto 26, 3) := by decide +kernel
theorem dX9_goOn_82 : decode cX9_goOn 82 = .ok (.iload_n 1, 1) := by decide +kernel
theorem dX9_goOn_83 : decode cX9_goOn 83 = .ok (.bipush 48, 2) := by decide +kernel
theorem dX9_goOn_85 : decode cX9_goOn 85 = .ok (.bipush 57, 2) := by decide +kernel
theorem dX9_goOn_87 : decode cX9_goOn 87 = .ok (.invokestatic 100, 3) := by decide +kernel
theorem dX9_goOn_90 : decode cX9_goOn 90 = .ok (.ifCond .eq 10, 3) := by decide +kernel
theorem dX9_goOn_93 : decode cX9_goOn 93 = .ok (.aload_n 0, 1) := by decide +kernel
theorem dX9_goOn_94 : decode cX9_goOn 94 = .ok (.invokevirtual 107, 3) := by decide +kernel
theorem dX9_goOn_97 : decode cX9_goOn 97 = .ok (.goto 8, 3) := by decide +kernel
theorem dX9_goOn_100 : decode cX9_goOn 100 = .ok (.aload_n 0, 1) := by decide +kernel
theorem dX9_goOn_101 : decode cX9_goOn 101 = .ok (.iload_n 1, 1) := by decide +kernel
theorem dX9_goOn_102 : decode cX9_goOn 102 = .ok (.invokevirtual 110, 3) := by decide +kernel
theorem dX9_goOn_105 : decode cX9_goOn 105 = .ok (.return_, 1) := by decide +kernel
theorem dX9_nextWord_0 : decode cX9_nextWord 0 = .ok (.aload_n 0, 1) := by decide +kernel
theorem dX9_nextWord_1 : decode cX9_nextWord 1 = .ok (.lconst 0, 1) := by decide +kernel
theorem dX9_nextWord_2 : decode cX9_nextWord 2 = .ok (.putfield 114, 3) := by decide +kernel
theorem dX9_nextWord_5 : decode cX9_nextWord 5 = .ok (.aload_n 0, 1) := by decide +kernel
theorem dX9_nextWord_6 : decode cX9_nextWord 6 = .ok (.aload_n 0, 1) := by decide +kernel
theorem dX9_nextWord_7 : decode cX9_nextWord 7 = .ok (.getfield 87, 3) := by decide +kernel
theorem dX9_nextWord_10 : decode cX9_nextWord 10 = .ok (.invokevirtual 90, 3) := by decide +kernel
theorem dX9_nextWord_13 : decode cX9_nextWord 13 = .ok (.bipush 97, 2) := by decide +kernel
theorem dX9_nextWord_15 : decode cX9_nextWord 15 = .ok (.bipush 122, 2) := by decide +kernel
theorem dX9_nextWord_17 : decode cX9_nextWord 17 = .ok (.invokestatic 100, 3) := by decide +kernel
theorem dX9_nextWord_20 : decode cX9_nextWord 20 = .ok (.ifCond .eq 51, 3) := by decide +kernel
theorem dX9_nextWord_23 : decode cX9_nextWord 23 = .ok (.aload_n 0, 1) := by decide +kernel
theorem dX9_nextWord_24 : decode cX9_nextWord 24 = .ok (.getfield 87, 3) := by decide +kernel
theorem dX9_nextWord_27 : decode cX9_nextWord 27 = .ok (.aload_n 0, 1) := by decide +kernel
theorem dX9_nextWord_28 : decode cX9_nextWord 28 = .ok (.getfield 94, 3) := by decide +kernel
theorem dX9_nextWord_31 : decode cX9_nextWord 31 = .ok (.isub, 1) := by decide +kernel
theorem dX9_nextWord_32 : decode cX9_nextWord 32 = .ok (.bipush 6, 2) := by decide +kernel
theorem dX9_nextWord_34 : decode cX9_nextWord 34 = .ok (.if_icmp .ge 24, 3) := by decide +kernel
theorem dX9_nextWord_37 : decode cX9_nextWord 37 = .ok (.aload_n 0, 1) := by decide +kernel
theorem dX9_nextWord_38 : decode cX9_nextWord 38 = .ok (.aload_n 0, 1) := by decide +kernel
theorem dX9_nextWord_39 : decode cX9_nextWord 39 = .ok (.getfield 114, 3) := by decide +kernel
theorem dX9_nextWord_42 : decode cX9_nextWord 42 = .ok (.bipush 8, 2) := by decide +kernel
theorem dX9_nextWord_44 : decode cX9_nextWord 44 = .ok (.lshl, 1) := by decide +kernel
theorem dX9_nextWord_45 : decode cX9_nextWord 45 = .ok (.aload_n 0, 1) := by decide +kernel
theorem dX9_nextWord_46 : decode cX9_nextWord 46 = .ok (.aload_n 0, 1) := by decide +kernel
theorem dX9_nextWord_47 : decode cX9_nextWord 47 = .ok (.getfield 87, 3) := by decide +kernel
theorem dX9_nextWord_50 : decode cX9_nextWord 50 = .ok (.invokevirtual 90, 3) := by decide +kernel
theorem dX9_nextWord_53 : decode cX9_nextWord 53 = .ok (.i2l, 1) := by decide +kernel
theorem dX9_nextWord_54 : decode cX9_nextWord 54 = .ok (.lor, 1) := by decide +kernel
theorem dX9_nextWord_55 : decode cX9_nextWord 55 = .ok (.putfield 114, 3) := by decide +kernel
theorem dX9_nextWord_58 : decode cX9_nextWord 58 = .ok (.aload_n 0, 1) := by decide +kernel
theorem dX9_nextWord_59 : decode cX9_nextWord 59 = .ok (.dup, 1) := by decide +kernel
theorem dX9_nextWord_60 : decode cX9_nextWord 60 = .ok (.getfield 87, 3) := by decide +kernel
theorem dX9_nextWord_63 : decode cX9_nextWord 63 = .ok (.iconst 1, 1) := by decide +kernel
theorem dX9_nextWord_64 : decode cX9_nextWord 64 = .ok (.iadd, 1) := by decide +kernel
theorem dX9_nextWord_65 : decode cX9_nextWord 65 = .ok (.putfield 87, 3) := by decide +kernel
theorem dX9_nextWord_68 : decode cX9_nextWord 68 = .ok (.goto (-63), 3) := by decide +kernel
theorem dX9_nextWord_71 : decode cX9_nextWord 71 = .ok (.aload_n 0, 1) := by decide +kernel
theorem dX9_nextWord_72 : decode cX9_nextWord 72 = .ok (.aload_n 0, 1) := by decide +kernel
theorem dX9_nextWord_73 : decode cX9_nextWord 73 = .ok (.getfield 87, 3) := by decide +kernel
theorem dX9_nextWord_76 : decode cX9_nextWord 76 = .ok (.aload_n 0, 1) := by decide +kernel
theorem dX9_nextWord_77 : decode cX9_nextWord 77 = .ok (.getfield 94, 3) := by decide +kernel
theorem dX9_nextWord_80 : decode cX9_nextWord 80 = .ok (.isub, 1) := by decide +kernel
theorem dX9_nextWord_81 : decode cX9_nextWord 81 = .ok (.bipush 6, 2) := by decide +kernel
theorem dX9_nextWord_83 : decode cX9_nextWord 83 = .ok (.if_icmp .le 7, 3) := by decide +kernel
theorem dX9_nextWord_86 : decode cX9_nextWord 86 = .ok (.iconst 0, 1) := by decide +kernel
theorem dX9_nextWord_87 : decode cX9_nextWord 87 = .ok (.goto 4, 3) := by decide +kernel
theorem dX9_nextWord_90 : decode cX9_nextWord 90 = .ok (.iconst 2, 1) := by decide +kernel
theorem dX9_nextWord_91 : decode cX9_nextWord 91 = .ok (.putfield 97, 3) := by decide +kernel
theorem dX9_nextWord_94 : decode cX9_nextWord 94 = .ok (.return_, 1) := by decide +kernel
theorem dX9_nextWhole_0 : decode cX9_nextWhole 0 = .ok (.aload_n 0, 1) := by decide +kernel
theorem dX9_nextWhole_1 : decode cX9_nextWhole 1 = .ok (.iconst 0, 1) := by decide +kernel
theorem dX9_nextWhole_2 : decode cX9_nextWhole 2 = .ok (.putfield 118, 3) := by decide +kernel
theorem dX9_nextWhole_5 : decode cX9_nextWhole 5 = .ok (.aload_n 0, 1) := by decide +kernel
theorem dX9_nextWhole_6 : decode cX9_nextWhole 6 = .ok (.aload_n 0, 1) := by decide +kernel
theorem dX9_nextWhole_7 : decode cX9_nextWhole 7 = .ok (.getfield 87, 3) := by decide +kernel
theorem dX9_nextWhole_10 : decode cX9_nextWhole 10 = .ok (.invokevirtual 90, 3) := by decide +kernel
theorem dX9_nextWhole_13 : decode cX9_nextWhole 13 = .ok (.bipush 48, 2) := by decide +kernel
theorem dX9_nextWhole_15 : decode cX9_nextWhole 15 = .ok (.bipush 57, 2) := by decide +kernel
theorem dX9_nextWhole_17 : decode cX9_nextWhole 17 = .ok (.invokestatic 100, 3) := by decide +kernel
theorem dX9_nextWhole_20 : decode cX9_nextWhole 20 = .ok (.ifCond .eq 52, 3) := by decide +kernel
theorem dX9_nextWhole_23 : decode cX9_nextWhole 23 = .ok (.aload_n 0, 1) := by decide +kernel
theorem dX9_nextWhole_24 : decode cX9_nextWhole 24 = .ok (.getfield 87, 3) := by decide +kernel
theorem dX9_nextWhole_27 : decode cX9_nextWhole 27 = .ok (.aload_n 0, 1) := by decide +kernel
theorem dX9_nextWhole_28 : decode cX9_nextWhole 28 = .ok (.getfield 94, 3) := by decide +kernel
theorem dX9_nextWhole_31 : decode cX9_nextWhole 31 = .ok (.isub, 1) := by decide +kernel
theorem dX9_nextWhole_32 : decode cX9_nextWhole 32 = .ok (.iconst 3, 1) := by decide +kernel
theorem dX9_nextWhole_33 : decode cX9_nextWhole 33 = .ok (.if_icmp .ge 26, 3) := by decide +kernel
theorem dX9_nextWhole_36 : decode cX9_nextWhole 36 = .ok (.aload_n 0, 1) := by decide +kernel
theorem dX9_nextWhole_37 : decode cX9_nextWhole 37 = .ok (.bipush 10, 2) := by decide +kernel
theorem dX9_nextWhole_39 : decode cX9_nextWhole 39 = .ok (.aload_n 0, 1) := by decide +kernel
theorem dX9_nextWhole_40 : decode cX9_nextWhole 40 = .ok (.getfield 118, 3) := by decide +kernel
theorem dX9_nextWhole_43 : decode cX9_nextWhole 43 = .ok (.imul, 1) := by decide +kernel
theorem dX9_nextWhole_44 : decode cX9_nextWhole 44 = .ok (.aload_n 0, 1) := by decide +kernel
theorem dX9_nextWhole_45 : decode cX9_nextWhole 45 = .ok (.aload_n 0, 1) := by decide +kernel
theorem dX9_nextWhole_46 : decode cX9_nextWhole 46 = .ok (.getfield 87, 3) := by decide +kernel
theorem dX9_nextWhole_49 : decode cX9_nextWhole 49 = .ok (.invokevirtual 90, 3) := by decide +kernel
theorem dX9_nextWhole_52 : decode cX9_nextWhole 52 = .ok (.iadd, 1) := by decide +kernel
theorem dX9_nextWhole_53 : decode cX9_nextWhole 53 = .ok (.bipush 48, 2) := by decide +kernel
theorem dX9_nextWhole_55 : decode cX9_nextWhole 55 = .ok (.isub, 1) := by decide +kernel
theorem dX9_nextWhole_56 : decode cX9_nextWhole 56 = .ok (.putfield 118, 3) := by decide +kernel
theorem dX9_nextWhole_59 : decode cX9_nextWhole 59 = .ok (.aload_n 0, 1) := by decide +kernel
theorem dX9_nextWhole_60 : decode cX9_nextWhole 60 = .ok (.dup, 1) := by decide +kernel
theorem dX9_nextWhole_61 : decode cX9_nextWhole 61 = .ok (.getfield 87, 3) := by decide +kernel
theorem dX9_nextWhole_64 : decode cX9_nextWhole 64 = .ok (.iconst 1, 1) := by decide +kernel
theorem dX9_nextWhole_65 : decode cX9_nextWhole 65 = .ok (.iadd, 1) := by decide +kernel
theorem dX9_nextWhole_66 : decode cX9_nextWhole 66 = .ok (.putfield 87, 3) := by decide +kernel
theorem dX9_nextWhole_69 : decode cX9_nextWhole 69 = .ok (.goto (-64), 3) := by decide +kernel
theorem dX9_nextWhole_72 : decode cX9_nextWhole 72 = .ok (.aload_n 0, 1) := by decide +kernel
theorem dX9_nextWhole_73 : decode cX9_nextWhole 73 = .ok (.aload_n 0, 1) := by decide +kernel
theorem dX9_nextWhole_74 : decode cX9_nextWhole 74 = .ok (.getfield 87, 3) := by decide +kernel
theorem dX9_nextWhole_77 : decode cX9_nextWhole 77 = .ok (.aload_n 0, 1) := by decide +kernel
theorem dX9_nextWhole_78 : decode cX9_nextWhole 78 = .ok (.getfield 94, 3) := by decide +kernel
theorem dX9_nextWhole_81 : decode cX9_nextWhole 81 = .ok (.isub, 1) := by decide +kernel
theorem dX9_nextWhole_82 : decode cX9_nextWhole 82 = .ok (.iconst 3, 1) := by decide +kernel
theorem dX9_nextWhole_83 : decode cX9_nextWhole 83 = .ok (.if_icmp .le 7, 3) := by decide +kernel
theorem dX9_nextWhole_86 : decode cX9_nextWhole 86 = .ok (.iconst 0, 1) := by decide +kernel
theorem dX9_nextWhole_87 : decode cX9_nextWhole 87 = .ok (.goto 4, 3) := by decide +kernel
theorem dX9_nextWhole_90 : decode cX9_nextWhole 90 = .ok (.iconst 3, 1) := by decide +kernel
theorem dX9_nextWhole_91 : decode cX9_nextWhole 91 = .ok (.putfield 97, 3) := by decide +kernel
theorem dX9_nextWhole_94 : decode cX9_nextWhole 94 = .ok (.return_, 1) := by decide +kernel
theorem dX9_nextSign_0 : decode cX9_nextSign 0 = .ok (.iload_n 1, 1) := by decide +kernel
theorem dX9_nextSign_1 : decode cX9_nextSign 1 = .ok (.bipush 59, 2) := by decide +kernel
theorem dX9_nextSign_3 : decode cX9_nextSign 3 = .ok (.if_icmp .eq 9, 3) := by decide +kernel
theorem dX9_nextSign_6 : decode cX9_nextSign 6 = .ok (.iload_n 1, 1) := by decide +kernel
theorem dX9_nextSign_7 : decode cX9_nextSign 7 = .ok (.bipush 44, 2) := by decide +kernel
theorem dX9_nextSign_9 : decode cX9_nextSign 9 = .ok (.if_icmp .ne 7, 3) := by decide +kernel
theorem dX9_nextSign_12 : decode cX9_nextSign 12 = .ok (.iconst 1, 1) := by decide +kernel
theorem dX9_nextSign_13 : decode cX9_nextSign 13 = .ok (.goto 4, 3) := by decide +kernel
theorem dX9_nextSign_16 : decode cX9_nextSign 16 = .ok (.iconst 0, 1) := by decide +kernel
theorem dX9_nextSign_17 : decode cX9_nextSign 17 = .ok (.istore_n 2, 1) := by decide +kernel
theorem dX9_nextSign_18 : decode cX9_nextSign 18 = .ok (.aload_n 0, 1) := by decide +kernel
theorem dX9_nextSign_19 : decode cX9_nextSign 19 = .ok (.iload_n 2, 1) := by decide +kernel
theorem dX9_nextSign_20 : decode cX9_nextSign 20 = .ok (.ifCond .eq 7, 3) := by decide +kernel
theorem dX9_nextSign_23 : decode cX9_nextSign 23 = .ok (.iconst 4, 1) := by decide +kernel
theorem dX9_nextSign_24 : decode cX9_nextSign 24 = .ok (.goto 4, 3) := by decide +kernel
theorem dX9_nextSign_27 : decode cX9_nextSign 27 = .ok (.iconst 0, 1) := by decide +kernel
theorem dX9_nextSign_28 : decode cX9_nextSign 28 = .ok (.putfield 97, 3) := by decide +kernel
theorem dX9_nextSign_31 : decode cX9_nextSign 31 = .ok (.aload_n 0, 1) := by decide +kernel
theorem dX9_nextSign_32 : decode cX9_nextSign 32 = .ok (.iload_n 1, 1) := by decide +kernel
theorem dX9_nextSign_33 : decode cX9_nextSign 33 = .ok (.putfield 118, 3) := by decide +kernel
theorem dX9_nextSign_36 : decode cX9_nextSign 36 = .ok (.iload_n 2, 1) := by decide +kernel
theorem dX9_nextSign_37 : decode cX9_nextSign 37 = .ok (.ifCond .eq 13, 3) := by decide +kernel
theorem dX9_nextSign_40 : decode cX9_nextSign 40 = .ok (.aload_n 0, 1) := by decide +kernel
theorem dX9_nextSign_41 : decode cX9_nextSign 41 = .ok (.dup, 1) := by decide +kernel
theorem dX9_nextSign_42 : decode cX9_nextSign 42 = .ok (.getfield 87, 3) := by decide +kernel
theorem dX9_nextSign_45 : decode cX9_nextSign 45 = .ok (.iconst 1, 1) := by decide +kernel
theorem dX9_nextSign_46 : decode cX9_nextSign 46 = .ok (.iadd, 1) := by decide +kernel
theorem dX9_nextSign_47 : decode cX9_nextSign 47 = .ok (.putfield 87, 3) := by decide +kernel
theorem dX9_nextSign_50 : decode cX9_nextSign 50 = .ok (.return_, 1) := by decide +kernel
theorem dX9_flaw_0 : decode cX9_flaw 0 = .ok (.aload_n 0, 1) := by decide +kernel
theorem dX9_flaw_1 : decode cX9_flaw 1 = .ok (.getfield 84, 3) := by decide +kernel
theorem dX9_flaw_4 : decode cX9_flaw 4 = .ok (.ifCond .ne 8, 3) := by decide +kernel
theorem dX9_flaw_7 : decode cX9_flaw 7 = .ok (.aload_n 0, 1) := by decide +kernel
theorem dX9_flaw_8 : decode cX9_flaw 8 = .ok (.iload_n 1, 1) := by decide +kernel
theorem dX9_flaw_9 : decode cX9_flaw 9 = .ok (.putfield 84, 3) := by decide +kernel
theorem dX9_flaw_12 : decode cX9_flaw 12 = .ok (.aload_n 0, 1) := by decide +kernel
theorem dX9_flaw_13 : decode cX9_flaw 13 = .ok (.iconst 0, 1) := by decide +kernel
theorem dX9_flaw_14 : decode cX9_flaw 14 = .ok (.putfield 97, 3) := by decide +kernel
theorem dX9_flaw_17 : decode cX9_flaw 17 = .ok (.return_, 1) := by decide +kernel
theorem dX9_isSign_0 : decode cX9_isSign 0 = .ok (.aload_n 0, 1) := by decide +kernel
theorem dX9_isSign_1 : decode cX9_isSign 1 = .ok (.getfield 97, 3) := by decide +kernel
theorem dX9_isSign_4 : decode cX9_isSign 4 = .ok (.iconst 4, 1) := by decide +kernel
theorem dX9_isSign_5 : decode cX9_isSign 5 = .ok (.if_icmp .ne 15, 3) := by decide +kernel
theorem dX9_isSign_8 : decode cX9_isSign 8 = .ok (.aload_n 0, 1) := by decide +kernel
theorem dX9_isSign_9 : decode cX9_isSign 9 = .ok (.getfield 118, 3) := by decide +kernel
theorem dX9_isSign_12 : decode cX9_isSign 12 = .ok (.iload_n 1, 1) := by decide +kernel
theorem dX9_isSign_13 : decode cX9_isSign 13 = .ok (.if_icmp .ne 7, 3) := by decide +kernel
theorem dX9_isSign_16 : decode cX9_isSign 16 = .ok (.iconst 1, 1) := by decide +kernel
theorem dX9_isSign_17 : decode cX9_isSign 17 = .ok (.goto 4, 3) := by decide +kernel
theorem dX9_isSign_20 : decode cX9_isSign 20 = .ok (.iconst 0, 1) := by decide +kernel
theorem dX9_isSign_21 : decode cX9_isSign 21 = .ok (.ireturn, 1) := by decide +kernel
theorem dX9_isWord_0 : decode cX9_isWord 0 = .ok (.lconst 0, 1) := by decide +kernel
theorem dX9_isWord_1 : decode cX9_isWord 1 = .ok (.lstore_n 2, 1) := by decide +kernel
theorem dX9_isWord_2 : decode cX9_isWord 2 = .ok (.iconst 0, 1) := by decide +kernel
theorem dX9_isWord_3 : decode cX9_isWord 3 = .ok (.istore 4, 2) := by decide +kernel
theorem dX9_isWord_5 : decode cX9_isWord 5 = .ok (.iload 4, 2) := by decide +kernel
theorem dX9_isWord_7 : decode cX9_isWord 7 = .ok (.aload_n 1, 1) := by decide +kernel
theorem dX9_isWord_8 : decode cX9_isWord 8 = .ok (.invokevirtual 121, 3) := by decide +kernel
theorem dX9_isWord_11 : decode cX9_isWord 11 = .ok (.if_icmp .ge 22, 3) := by decide +kernel
theorem dX9_isWord_14 : decode cX9_isWord 14 = .ok (.lload_n 2, 1) := by decide +kernel
theorem dX9_isWord_15 : decode cX9_isWord 15 = .ok (.bipush 8, 2) := by decide +kernel
theorem dX9_isWord_17 : decode cX9_isWord 17 = .ok (.lshl, 1) := by decide +kernel
theorem dX9_isWord_18 : decode cX9_isWord 18 = .ok (.aload_n 1, 1) := by decide +kernel
theorem dX9_isWord_19 : decode cX9_isWord 19 = .ok (.iload 4, 2) := by decide +kernel
theorem dX9_isWord_21 : decode cX9_isWord 21 = .ok (.invokevirtual 127, 3) := by decide +kernel
theorem dX9_isWord_24 : decode cX9_isWord 24 = .ok (.i2l, 1) := by decide +kernel
theorem dX9_isWord_25 : decode cX9_isWord 25 = .ok (.lor, 1) := by decide +kernel
theorem dX9_isWord_26 : decode cX9_isWord 26 = .ok (.lstore_n 2, 1) := by decide +kernel
theorem dX9_isWord_27 : decode cX9_isWord 27 = .ok (.iinc 4 1, 3) := by decide +kernel
theorem dX9_isWord_30 : decode cX9_isWord 30 = .ok (.goto (-25), 3) := by decide +kernel
theorem dX9_isWord_33 : decode cX9_isWord 33 = .ok (.aload_n 0, 1) := by decide +kernel
theorem dX9_isWord_34 : decode cX9_isWord 34 = .ok (.getfield 97, 3) := by decide +kernel
theorem dX9_isWord_37 : decode cX9_isWord 37 = .ok (.iconst 2, 1) := by decide +kernel
theorem dX9_isWord_38 : decode cX9_isWord 38 = .ok (.if_icmp .ne 16, 3) := by decide +kernel
theorem dX9_isWord_41 : decode cX9_isWord 41 = .ok (.aload_n 0, 1) := by decide +kernel
theorem dX9_isWord_42 : decode cX9_isWord 42 = .ok (.getfield 114, 3) := by decide +kernel
theorem dX9_isWord_45 : decode cX9_isWord 45 = .ok (.lload_n 2, 1) := by decide +kernel
theorem dX9_isWord_46 : decode cX9_isWord 46 = .ok (.lcmp, 1) := by decide +kernel
theorem dX9_isWord_47 : decode cX9_isWord 47 = .ok (.ifCond .ne 7, 3) := by decide +kernel
theorem dX9_isWord_50 : decode cX9_isWord 50 = .ok (.iconst 1, 1) := by decide +kernel
theorem dX9_isWord_51 : decode cX9_isWord 51 = .ok (.goto 4, 3) := by decide +kernel
theorem dX9_isWord_54 : decode cX9_isWord 54 = .ok (.iconst 0, 1) := by decide +kernel
theorem dX9_isWord_55 : decode cX9_isWord 55 = .ok (.ireturn, 1) := by decide +kernel
theorem dX9_wholeAt_0 : decode cX9_wholeAt 0 = .ok (.aload_n 0, 1) := by decide +kernel
theorem dX9_wholeAt_1 : decode cX9_wholeAt 1 = .ok (.getfield 97, 3) := by decide +kernel
theorem dX9_wholeAt_4 : decode cX9_wholeAt 4 = .ok (.iconst 3, 1) := by decide +kernel
theorem dX9_wholeAt_5 : decode cX9_wholeAt 5 = .ok (.if_icmp .eq 11, 3) := by decide +kernel
theorem dX9_wholeAt_8 : decode cX9_wholeAt 8 = .ok (.aload_n 0, 1) := by decide +kernel
theorem dX9_wholeAt_9 : decode cX9_wholeAt 9 = .ok (.iconst 1, 1) := by decide +kernel
theorem dX9_wholeAt_10 : decode cX9_wholeAt 10 = .ok (.invokevirtual 131, 3) := by decide +kernel
theorem dX9_wholeAt_13 : decode cX9_wholeAt 13 = .ok (.goto 20, 3) := by decide +kernel
theorem dX9_wholeAt_16 : decode cX9_wholeAt 16 = .ok (.aload_n 0, 1) := by decide +kernel
theorem dX9_wholeAt_17 : decode cX9_wholeAt 17 = .ok (.getfield 118, 3) := by decide +kernel
theorem dX9_wholeAt_20 : decode cX9_wholeAt 20 = .ok (.iload_n 1, 1) := by decide +kernel
theorem dX9_wholeAt_21 : decode cX9_wholeAt 21 = .ok (.iload_n 2, 1) := by decide +kernel
theorem dX9_wholeAt_22 : decode cX9_wholeAt 22 = .ok (.invokestatic 100, 3) := by decide +kernel
theorem dX9_wholeAt_25 : decode cX9_wholeAt 25 = .ok (.ifCond .ne 8, 3) := by decide +kernel
theorem dX9_wholeAt_28 : decode cX9_wholeAt 28 = .ok (.aload_n 0, 1) := by decide +kernel
theorem dX9_wholeAt_29 : decode cX9_wholeAt 29 = .ok (.iconst 2, 1) := by decide +kernel
theorem dX9_wholeAt_30 : decode cX9_wholeAt 30 = .ok (.invokevirtual 131, 3) := by decide +kernel
theorem dX9_wholeAt_33 : decode cX9_wholeAt 33 = .ok (.aload_n 0, 1) := by decide +kernel
theorem dX9_wholeAt_34 : decode cX9_wholeAt 34 = .ok (.getfield 84, 3) := by decide +kernel
theorem dX9_wholeAt_37 : decode cX9_wholeAt 37 = .ok (.ifCond .le 7, 3) := by decide +kernel
theorem dX9_wholeAt_40 : decode cX9_wholeAt 40 = .ok (.iload_n 1, 1) := by decide +kernel
theorem dX9_wholeAt_41 : decode cX9_wholeAt 41 = .ok (.goto 7, 3) := by decide +kernel
theorem dX9_wholeAt_44 : decode cX9_wholeAt 44 = .ok (.aload_n 0, 1) := by decide +kernel
theorem dX9_wholeAt_45 : decode cX9_wholeAt 45 = .ok (.getfield 118, 3) := by decide +kernel
theorem dX9_wholeAt_48 : decode cX9_wholeAt 48 = .ok (.ireturn, 1) := by decide +kernel
theorem dX9_readWhole_0 : decode cX9_readWhole 0 = .ok (.aload_n 0, 1) := by decide +kernel
theorem dX9_readWhole_1 : decode cX9_readWhole 1 = .ok (.iload_n 1, 1) := by decide +kernel
theorem dX9_readWhole_2 : decode cX9_readWhole 2 = .ok (.iload_n 2, 1) := by decide +kernel
theorem dX9_readWhole_3 : decode cX9_readWhole 3 = .ok (.invokevirtual 134, 3) := by decide +kernel
theorem dX9_readWhole_6 : decode cX9_readWhole 6 = .ok (.istore_n 3, 1) := by decide +kernel
theorem dX9_readWhole_7 : decode cX9_readWhole 7 = .ok (.aload_n 0, 1) := by decide +kernel
theorem dX9_readWhole_8 : decode cX9_readWhole 8 = .ok (.invokevirtual 138, 3) := by decide +kernel
theorem dX9_readWhole_11 : decode cX9_readWhole 11 = .ok (.iload_n 3, 1) := by decide +kernel
theorem dX9_readWhole_12 : decode cX9_readWhole 12 = .ok (.ireturn, 1) := by decide +kernel
theorem dX9_readPart_0 : decode cX9_readPart 0 = .ok (.aload_n 0, 1) := by decide +kernel
theorem dX9_readPart_1 : decode cX9_readPart 1 = .ok (.aload_n 1, 1) := by decide +kernel
theorem dX9_readPart_2 : decode cX9_readPart 2 = .ok (.invokevirtual 141, 3) := by decide +kernel
theorem dX9_readPart_5 : decode cX9_readPart 5 = .ok (.ifCond .ne 8, 3) := by decide +kernel
theorem dX9_readPart_8 : decode cX9_readPart 8 = .ok (.aload_n 0, 1) := by decide +kernel
theorem dX9_readPart_9 : decode cX9_readPart 9 = .ok (.iconst 1, 1) := by decide +kernel
theorem dX9_readPart_10 : decode cX9_readPart 10 = .ok (.invokevirtual 131, 3) := by decide +kernel
theorem dX9_readPart_13 : decode cX9_readPart 13 = .ok (.aload_n 0, 1) := by decide +kernel
theorem dX9_readPart_14 : decode cX9_readPart 14 = .ok (.invokevirtual 138, 3) := by decide +kernel
theorem dX9_readPart_17 : decode cX9_readPart 17 = .ok (.aload_n 0, 1) := by decide +kernel
theorem dX9_readPart_18 : decode cX9_readPart 18 = .ok (.iload_n 2, 1) := by decide +kernel
theorem dX9_readPart_19 : decode cX9_readPart 19 = .ok (.iload_n 3, 1) := by decide +kernel
theorem dX9_readPart_20 : decode cX9_readPart 20 = .ok (.invokevirtual 145, 3) := by decide +kernel
theorem dX9_readPart_23 : decode cX9_readPart 23 = .ok (.ireturn, 1) := by decide +kernel
theorem dX9_readAll_0 : decode cX9_readAll 0 = .ok (.aload_n 0, 1) := by decide +kernel
theorem dX9_readAll_1 : decode cX9_readAll 1 = .ok (.iconst 0, 1) := by decide +kernel
theorem dX9_readAll_2 : decode cX9_readAll 2 = .ok (.putfield 148, 3) := by decide +kernel
theorem dX9_readAll_5 : decode cX9_readAll 5 = .ok (.aload_n 0, 1) := by decide +kernel
theorem dX9_readAll_6 : decode cX9_readAll 6 = .ok (.iconst 0, 1) := by decide +kernel
theorem dX9_readAll_7 : decode cX9_readAll 7 = .ok (.putfield 151, 3) := by decide +kernel
theorem dX9_readAll_10 : decode cX9_readAll 10 = .ok (.aload_n 0, 1) := by decide +kernel
theorem dX9_readAll_11 : decode cX9_readAll 11 = .ok (.iconst 0, 1) := by decide +kernel
theorem dX9_readAll_12 : decode cX9_readAll 12 = .ok (.putfield 154, 3) := by decide +kernel
theorem dX9_readAll_15 : decode cX9_readAll 15 = .ok (.aload_n 0, 1) := by decide +kernel
theorem dX9_readAll_16 : decode cX9_readAll 16 = .ok (.invokevirtual 138, 3) := by decide +kernel
theorem dX9_readAll_19 : decode cX9_readAll 19 = .ok (.aload_n 0, 1) := by decide +kernel
theorem dX9_readAll_20 : decode cX9_readAll 20 = .ok (.invokevirtual 157, 3) := by decide +kernel
theorem dX9_readAll_23 : decode cX9_readAll 23 = .ok (.aload_n 0, 1) := by decide +kernel
theorem dX9_readAll_24 : decode cX9_readAll 24 = .ok (.bipush 59, 2) := by decide +kernel
theorem dX9_readAll_26 : decode cX9_readAll 26 = .ok (.invokevirtual 160, 3) := by decide +kernel
theorem dX9_readAll_29 : decode cX9_readAll 29 = .ok (.ifCond .eq 14, 3) := by decide +kernel
theorem dX9_readAll_32 : decode cX9_readAll 32 = .ok (.aload_n 0, 1) := by decide +kernel
theorem dX9_readAll_33 : decode cX9_readAll 33 = .ok (.invokevirtual 138, 3) := by decide +kernel
theorem dX9_readAll_36 : decode cX9_readAll 36 = .ok (.aload_n 0, 1) := by decide +kernel
theorem dX9_readAll_37 : decode cX9_readAll 37 = .ok (.invokevirtual 157, 3) := by decide +kernel
theorem dX9_readAll_40 : decode cX9_readAll 40 = .ok (.goto (-17), 3) := by decide +kernel
theorem dX9_readAll_43 : decode cX9_readAll 43 = .ok (.aload_n 0, 1) := by decide +kernel
theorem dX9_readAll_44 : decode cX9_readAll 44 = .ok (.getfield 97, 3) := by decide +kernel
theorem dX9_readAll_47 : decode cX9_readAll 47 = .ok (.iconst 1, 1) := by decide +kernel
theorem dX9_readAll_48 : decode cX9_readAll 48 = .ok (.if_icmp .eq 8, 3) := by decide +kernel
theorem dX9_readAll_51 : decode cX9_readAll 51 = .ok (.aload_n 0, 1) := by decide +kernel
theorem dX9_readAll_52 : decode cX9_readAll 52 = .ok (.iconst 1, 1) := by decide +kernel
theorem dX9_readAll_53 : decode cX9_readAll 53 = .ok (.invokevirtual 131, 3) := by decide +kernel
theorem dX9_readAll_56 : decode cX9_readAll 56 = .ok (.aload_n 0, 1) := by decide +kernel
theorem dX9_readAll_57 : decode cX9_readAll 57 = .ok (.getfield 84, 3) := by decide +kernel
theorem dX9_readAll_60 : decode cX9_readAll 60 = .ok (.ifCond .ne 15, 3) := by decide +kernel
theorem dX9_readAll_63 : decode cX9_readAll 63 = .ok (.aload_n 0, 1) := by decide +kernel
theorem dX9_readAll_64 : decode cX9_readAll 64 = .ok (.getfield 148, 3) := by decide +kernel
theorem dX9_readAll_67 : decode cX9_readAll 67 = .ok (.ifCond .ne 8, 3) := by decide +kernel
theorem dX9_readAll_70 : decode cX9_readAll 70 = .ok (.aload_n 0, 1) := by decide +kernel
theorem dX9_readAll_71 : decode cX9_readAll 71 = .ok (.iconst 5, 1) := by decide +kernel
theorem dX9_readAll_72 : decode cX9_readAll 72 = .ok (.invokevirtual 131, 3) := by decide +kernel
theorem dX9_readAll_75 : decode cX9_readAll 75 = .ok (.return_, 1) := by decide +kernel
theorem dX9_readLine_0 : decode cX9_readLine 0 = .ok (.aload_n 0, 1) := by decide +kernel
theorem dX9_readLine_1 : decode cX9_readLine 1 = .ok (.ldc 164, 2) := by decide +kernel
theorem dX9_readLine_3 : decode cX9_readLine 3 = .ok (.invokevirtual 141, 3) := by decide +kernel
theorem dX9_readLine_6 : decode cX9_readLine 6 = .ok (.ifCond .eq 10, 3) := by decide +kernel
theorem dX9_readLine_9 : decode cX9_readLine 9 = .ok (.aload_n 0, 1) := by decide +kernel
theorem dX9_readLine_10 : decode cX9_readLine 10 = .ok (.invokevirtual 166, 3) := by decide +kernel
theorem dX9_readLine_13 : decode cX9_readLine 13 = .ok (.goto 75, 3) := by decide +kernel
theorem dX9_readLine_16 : decode cX9_readLine 16 = .ok (.aload_n 0, 1) := by decide +kernel
theorem dX9_readLine_17 : decode cX9_readLine 17 = .ok (.ldc 169, 2) := by decide +kernel
theorem dX9_readLine_19 : decode cX9_readLine 19 = .ok (.invokevirtual 141, 3) := by decide +kernel
theorem dX9_readLine_22 : decode cX9_readLine 22 = .ok (.ifCond .eq 10, 3) := by decide +kernel
theorem dX9_readLine_25 : decode cX9_readLine 25 = .ok (.aload_n 0, 1) := by decide +kernel
theorem dX9_readLine_26 : decode cX9_readLine 26 = .ok (.invokevirtual 171, 3) := by decide +kernel
theorem dX9_readLine_29 : decode cX9_readLine 29 = .ok (.goto 59, 3) := by decide +kernel
theorem dX9_readLine_32 : decode cX9_readLine 32 = .ok (.aload_n 0, 1) := by decide +kernel
theorem dX9_readLine_33 : decode cX9_readLine 33 = .ok (.ldc 174, 2) := by decide +kernel
theorem dX9_readLine_35 : decode cX9_readLine 35 = .ok (.invokevirtual 141, 3) := by decide +kernel
theorem dX9_readLine_38 : decode cX9_readLine 38 = .ok (.ifCond .eq 11, 3) := by decide +kernel
theorem dX9_readLine_41 : decode cX9_readLine 41 = .ok (.aload_n 0, 1) := by decide +kernel
theorem dX9_readLine_42 : decode cX9_readLine 42 = .ok (.iconst 0, 1) := by decide +kernel
theorem dX9_readLine_43 : decode cX9_readLine 43 = .ok (.invokevirtual 176, 3) := by decide +kernel
theorem dX9_readLine_46 : decode cX9_readLine 46 = .ok (.goto 42, 3) := by decide +kernel
theorem dX9_readLine_49 : decode cX9_readLine 49 = .ok (.aload_n 0, 1) := by decide +kernel
theorem dX9_readLine_50 : decode cX9_readLine 50 = .ok (.ldc 179, 2) := by decide +kernel
theorem dX9_readLine_52 : decode cX9_readLine 52 = .ok (.invokevirtual 141, 3) := by decide +kernel
theorem dX9_readLine_55 : decode cX9_readLine 55 = .ok (.ifCond .eq 11, 3) := by decide +kernel
theorem dX9_readLine_58 : decode cX9_readLine 58 = .ok (.aload_n 0, 1) := by decide +kernel
theorem dX9_readLine_59 : decode cX9_readLine 59 = .ok (.iconst 1, 1) := by decide +kernel
theorem dX9_readLine_60 : decode cX9_readLine 60 = .ok (.invokevirtual 176, 3) := by decide +kernel
theorem dX9_readLine_63 : decode cX9_readLine 63 = .ok (.goto 25, 3) := by decide +kernel
theorem dX9_readLine_66 : decode cX9_readLine 66 = .ok (.aload_n 0, 1) := by decide +kernel
theorem dX9_readLine_67 : decode cX9_readLine 67 = .ok (.ldc 181, 2) := by decide +kernel
theorem dX9_readLine_69 : decode cX9_readLine 69 = .ok (.invokevirtual 141, 3) := by decide +kernel
theorem dX9_readLine_72 : decode cX9_readLine 72 = .ok (.ifCond .eq 11, 3) := by decide +kernel
theorem dX9_readLine_75 : decode cX9_readLine 75 = .ok (.aload_n 0, 1) := by decide +kernel
theorem dX9_readLine_76 : decode cX9_readLine 76 = .ok (.iconst 2, 1) := by decide +kernel
theorem dX9_readLine_77 : decode cX9_readLine 77 = .ok (.invokevirtual 176, 3) := by decide +kernel
theorem dX9_readLine_80 : decode cX9_readLine 80 = .ok (.goto 8, 3) := by decide +kernel
theorem dX9_readLine_83 : decode cX9_readLine 83 = .ok (.aload_n 0, 1) := by decide +kernel
theorem dX9_readLine_84 : decode cX9_readLine 84 = .ok (.iconst 1, 1) := by decide +kernel
theorem dX9_readLine_85 : decode cX9_readLine 85 = .ok (.invokevirtual 131, 3) := by decide +kernel
theorem dX9_readLine_88 : decode cX9_readLine 88 = .ok (.return_, 1) := by decide +kernel
theorem dX9_readSwap_0 : decode cX9_readSwap 0 = .ok (.aload_n 0, 1) := by decide +kernel
theorem dX9_readSwap_1 : decode cX9_readSwap 1 = .ok (.getfield 148, 3) := by decide +kernel
theorem dX9_readSwap_4 : decode cX9_readSwap 4 = .ok (.ifCond .le 8, 3) := by decide +kernel
theorem dX9_readSwap_7 : decode cX9_readSwap 7 = .ok (.aload_n 0, 1) := by decide +kernel
theorem dX9_readSwap_8 : decode cX9_readSwap 8 = .ok (.iconst 3, 1) := by decide +kernel
theorem dX9_readSwap_9 : decode cX9_readSwap 9 = .ok (.invokevirtual 131, 3) := by decide +kernel
theorem dX9_readSwap_12 : decode cX9_readSwap 12 = .ok (.aload_n 0, 1) := by decide +kernel
theorem dX9_readSwap_13 : decode cX9_readSwap 13 = .ok (.invokevirtual 138, 3) := by decide +kernel
theorem dX9_readSwap_16 : decode cX9_readSwap 16 = .ok (.aload_n 0, 1) := by decide +kernel
theorem dX9_readSwap_17 : decode cX9_readSwap 17 = .ok (.ldc 183, 2) := by decide +kernel
theorem dX9_readSwap_19 : decode cX9_readSwap 19 = .ok (.iconst 1, 1) := by decide +kernel
theorem dX9_readSwap_20 : decode cX9_readSwap 20 = .ok (.bipush 24, 2) := by decide +kernel
theorem dX9_readSwap_22 : decode cX9_readSwap 22 = .ok (.invokevirtual 185, 3) := by decide +kernel
theorem dX9_readSwap_25 : decode cX9_readSwap 25 = .ok (.istore_n 1, 1) := by decide +kernel
theorem dX9_readSwap_26 : decode cX9_readSwap 26 = .ok (.aload_n 0, 1) := by decide +kernel
theorem dX9_readSwap_27 : decode cX9_readSwap 27 = .ok (.ldc 189, 2) := by decide +kernel
theorem dX9_readSwap_29 : decode cX9_readSwap 29 = .ok (.iconst 1, 1) := by decide +kernel
theorem dX9_readSwap_30 : decode cX9_readSwap 30 = .ok (.iconst 4, 1) := by decide +kernel
theorem dX9_readSwap_31 : decode cX9_readSwap 31 = .ok (.invokevirtual 185, 3) := by decide +kernel
theorem dX9_readSwap_34 : decode cX9_readSwap 34 = .ok (.istore_n 2, 1) := by decide +kernel
theorem dX9_readSwap_35 : decode cX9_readSwap 35 = .ok (.aload_n 0, 1) := by decide +kernel
theorem dX9_readSwap_36 : decode cX9_readSwap 36 = .ok (.ldc 191, 2) := by decide +kernel
theorem dX9_readSwap_38 : decode cX9_readSwap 38 = .ok (.iconst 4, 1) := by decide +kernel
theorem dX9_readSwap_39 : decode cX9_readSwap 39 = .ok (.bipush 15, 2) := by decide +kernel
theorem dX9_readSwap_41 : decode cX9_readSwap 41 = .ok (.invokevirtual 185, 3) := by decide +kernel
theorem dX9_readSwap_44 : decode cX9_readSwap 44 = .ok (.istore_n 3, 1) := by decide +kernel
theorem dX9_readSwap_45 : decode cX9_readSwap 45 = .ok (.aload_n 0, 1) := by decide +kernel
theorem dX9_readSwap_46 : decode cX9_readSwap 46 = .ok (.getfield 84, 3) := by decide +kernel
theorem dX9_readSwap_49 : decode cX9_readSwap 49 = .ok (.ifCond .le 4, 3) := by decide +kernel
theorem dX9_readSwap_52 : decode cX9_readSwap 52 = .ok (.return_, 1) := by decide +kernel
theorem dX9_readSwap_53 : decode cX9_readSwap 53 = .ok (.aload_n 0, 1) := by decide +kernel
theorem dX9_readSwap_54 : decode cX9_readSwap 54 = .ok (.iload_n 1, 1) := by decide +kernel
theorem dX9_readSwap_55 : decode cX9_readSwap 55 = .ok (.putfield 148, 3) := by decide +kernel
theorem dX9_readSwap_58 : decode cX9_readSwap 58 = .ok (.aload_n 0, 1) := by decide +kernel
theorem dX9_readSwap_59 : decode cX9_readSwap 59 = .ok (.iload_n 2, 1) := by decide +kernel
theorem dX9_readSwap_60 : decode cX9_readSwap 60 = .ok (.putfield 193, 3) := by decide +kernel
theorem dX9_readSwap_63 : decode cX9_readSwap 63 = .ok (.aload_n 0, 1) := by decide +kernel
theorem dX9_readSwap_64 : decode cX9_readSwap 64 = .ok (.iload_n 3, 1) := by decide +kernel
theorem dX9_readSwap_65 : decode cX9_readSwap 65 = .ok (.putfield 196, 3) := by decide +kernel
theorem dX9_readSwap_68 : decode cX9_readSwap 68 = .ok (.return_, 1) := by decide +kernel
theorem dX9_begins_0 : decode cX9_begins 0 = .ok (.iload_n 1, 1) := by decide +kernel
theorem dX9_begins_1 : decode cX9_begins 1 = .ok (.ifCond .eq 8, 3) := by decide +kernel
theorem dX9_begins_4 : decode cX9_begins 4 = .ok (.aload_n 0, 1) := by decide +kernel
theorem dX9_begins_5 : decode cX9_begins 5 = .ok (.iconst 4, 1) := by decide +kernel
theorem dX9_begins_6 : decode cX9_begins 6 = .ok (.invokevirtual 131, 3) := by decide +kernel
theorem dX9_begins_9 : decode cX9_begins 9 = .ok (.aload_n 0, 1) := by decide +kernel
theorem dX9_begins_10 : decode cX9_begins 10 = .ok (.getfield 148, 3) := by decide +kernel
theorem dX9_begins_13 : decode cX9_begins 13 = .ok (.ifCond .ne 8, 3) := by decide +kernel
theorem dX9_begins_16 : decode cX9_begins 16 = .ok (.aload_n 0, 1) := by decide +kernel
theorem dX9_begins_17 : decode cX9_begins 17 = .ok (.iconst 5, 1) := by decide +kernel
theorem dX9_begins_18 : decode cX9_begins 18 = .ok (.invokevirtual 131, 3) := by decide +kernel
theorem dX9_begins_21 : decode cX9_begins 21 = .ok (.aload_n 0, 1) := by decide +kernel
theorem dX9_begins_22 : decode cX9_begins 22 = .ok (.invokevirtual 138, 3) := by decide +kernel
theorem dX9_begins_25 : decode cX9_begins 25 = .ok (.return_, 1) := by decide +kernel
theorem dX9_readDataLine_0 : decode cX9_readDataLine 0 = .ok (.aload_n 0, 1) := by decide +kernel
theorem dX9_readDataLine_1 : decode cX9_readDataLine 1 = .ok (.aload_n 0, 1) := by decide +kernel
theorem dX9_readDataLine_2 : decode cX9_readDataLine 2 = .ok (.getfield 151, 3) := by decide +kernel
theorem dX9_readDataLine_5 : decode cX9_readDataLine 5 = .ok (.bipush 10, 2) := by decide +kernel
theorem dX9_readDataLine_7 : decode cX9_readDataLine 7 = .ok (.if_icmp .ne 7, 3) := by decide +kernel
theorem dX9_readDataLine_10 : decode cX9_readDataLine 10 = .ok (.iconst 1, 1) := by decide +kernel
theorem dX9_readDataLine_11 : decode cX9_readDataLine 11 = .ok (.goto 4, 3) := by decide +kernel
theorem dX9_readDataLine_14 : decode cX9_readDataLine 14 = .ok (.iconst 0, 1) := by decide +kernel
theorem dX9_readDataLine_15 : decode cX9_readDataLine 15 = .ok (.invokevirtual 199, 3) := by decide +kernel
theorem dX9_readDataLine_18 : decode cX9_readDataLine 18 = .ok (.aload_n 0, 1) := by decide +kernel
theorem dX9_readDataLine_19 : decode cX9_readDataLine 19 = .ok (.iconst 0, 1) := by decide +kernel
theorem dX9_readDataLine_20 : decode cX9_readDataLine 20 = .ok (.invokevirtual 203, 3) := by decide +kernel
theorem dX9_readDataLine_23 : decode cX9_readDataLine 23 = .ok (.istore_n 1, 1) := by decide +kernel
theorem dX9_readDataLine_24 : decode cX9_readDataLine 24 = .ok (.aload_n 0, 1) := by decide +kernel
theorem dX9_readDataLine_25 : decode cX9_readDataLine 25 = .ok (.bipush 44, 2) := by decide +kernel
theorem dX9_readDataLine_27 : decode cX9_readDataLine 27 = .ok (.invokevirtual 160, 3) := by decide +kernel
theorem dX9_readDataLine_30 : decode cX9_readDataLine 30 = .ok (.ifCond .eq 16, 3) := by decide +kernel
theorem dX9_readDataLine_33 : decode cX9_readDataLine 33 = .ok (.aload_n 0, 1) := by decide +kernel
theorem dX9_readDataLine_34 : decode cX9_readDataLine 34 = .ok (.invokevirtual 138, 3) := by decide +kernel
theorem dX9_readDataLine_37 : decode cX9_readDataLine 37 = .ok (.aload_n 0, 1) := by decide +kernel
theorem dX9_readDataLine_38 : decode cX9_readDataLine 38 = .ok (.iload_n 1, 1) := by decide +kernel
theorem dX9_readDataLine_39 : decode cX9_readDataLine 39 = .ok (.invokevirtual 203, 3) := by decide +kernel
theorem dX9_readDataLine_42 : decode cX9_readDataLine 42 = .ok (.istore_n 1, 1) := by decide +kernel
theorem dX9_readDataLine_43 : decode cX9_readDataLine 43 = .ok (.goto (-19), 3) := by decide +kernel
theorem dX9_readDataLine_46 : decode cX9_readDataLine 46 = .ok (.iload_n 1, 1) := by decide +kernel
theorem dX9_readDataLine_47 : decode cX9_readDataLine 47 = .ok (.bipush 16, 2) := by decide +kernel
theorem dX9_readDataLine_49 : decode cX9_readDataLine 49 = .ok (.if_icmp .ge 26, 3) := by decide +kernel
theorem dX9_readDataLine_52 : decode cX9_readDataLine 52 = .ok (.aload_n 0, 1) := by decide +kernel
theorem dX9_readDataLine_53 : decode cX9_readDataLine 53 = .ok (.bipush 59, 2) := by decide +kernel
theorem dX9_readDataLine_55 : decode cX9_readDataLine 55 = .ok (.invokevirtual 160, 3) := by decide +kernel
theorem dX9_readDataLine_58 : decode cX9_readDataLine 58 = .ok (.ifCond .ne 11, 3) := by decide +kernel
theorem dX9_readDataLine_61 : decode cX9_readDataLine 61 = .ok (.aload_n 0, 1) := by decide +kernel
theorem dX9_readDataLine_62 : decode cX9_readDataLine 62 = .ok (.getfield 97, 3) := by decide +kernel
theorem dX9_readDataLine_65 : decode cX9_readDataLine 65 = .ok (.iconst 1, 1) := by decide +kernel
theorem dX9_readDataLine_66 : decode cX9_readDataLine 66 = .ok (.if_icmp .ne 9, 3) := by decide +kernel
theorem dX9_readDataLine_69 : decode cX9_readDataLine 69 = .ok (.aload_n 0, 1) := by decide +kernel
theorem dX9_readDataLine_70 : decode cX9_readDataLine 70 = .ok (.bipush 6, 2) := by decide +kernel
theorem dX9_readDataLine_72 : decode cX9_readDataLine 72 = .ok (.invokevirtual 131, 3) := by decide +kernel
theorem dX9_readDataLine_75 : decode cX9_readDataLine 75 = .ok (.aload_n 0, 1) := by decide +kernel
theorem dX9_readDataLine_76 : decode cX9_readDataLine 76 = .ok (.getfield 84, 3) := by decide +kernel
theorem dX9_readDataLine_79 : decode cX9_readDataLine 79 = .ok (.ifCond .ne 13, 3) := by decide +kernel
theorem dX9_readDataLine_82 : decode cX9_readDataLine 82 = .ok (.aload_n 0, 1) := by decide +kernel
theorem dX9_readDataLine_83 : decode cX9_readDataLine 83 = .ok (.dup, 1) := by decide +kernel
theorem dX9_readDataLine_84 : decode cX9_readDataLine 84 = .ok (.getfield 151, 3) := by decide +kernel
theorem dX9_readDataLine_87 : decode cX9_readDataLine 87 = .ok (.iconst 1, 1) := by decide +kernel
theorem dX9_readDataLine_88 : decode cX9_readDataLine 88 = .ok (.iadd, 1) := by decide +kernel
theorem dX9_readDataLine_89 : decode cX9_readDataLine 89 = .ok (.putfield 151, 3) := by decide +kernel
theorem dX9_readDataLine_92 : decode cX9_readDataLine 92 = .ok (.return_, 1) := by decide +kernel
theorem dX9_readSome_0 : decode cX9_readSome 0 = .ok (.aload_n 0, 1) := by decide +kernel
theorem dX9_readSome_1 : decode cX9_readSome 1 = .ok (.iconst 0, 1) := by decide +kernel
theorem dX9_readSome_2 : decode cX9_readSome 2 = .ok (.bipush 99, 2) := by decide +kernel
theorem dX9_readSome_4 : decode cX9_readSome 4 = .ok (.invokevirtual 134, 3) := by decide +kernel
theorem dX9_readSome_7 : decode cX9_readSome 7 = .ok (.istore_n 2, 1) := by decide +kernel
theorem dX9_readSome_8 : decode cX9_readSome 8 = .ok (.aload_n 0, 1) := by decide +kernel
theorem dX9_readSome_9 : decode cX9_readSome 9 = .ok (.getfield 84, 3) := by decide +kernel
theorem dX9_readSome_12 : decode cX9_readSome 12 = .ok (.ifCond .ne 15, 3) := by decide +kernel
theorem dX9_readSome_15 : decode cX9_readSome 15 = .ok (.iload_n 1, 1) := by decide +kernel
theorem dX9_readSome_16 : decode cX9_readSome 16 = .ok (.bipush 16, 2) := by decide +kernel
theorem dX9_readSome_18 : decode cX9_readSome 18 = .ok (.if_icmp .ne 9, 3) := by decide +kernel
theorem dX9_readSome_21 : decode cX9_readSome 21 = .ok (.aload_n 0, 1) := by decide +kernel
theorem dX9_readSome_22 : decode cX9_readSome 22 = .ok (.bipush 6, 2) := by decide +kernel
theorem dX9_readSome_24 : decode cX9_readSome 24 = .ok (.invokevirtual 131, 3) := by decide +kernel
theorem dX9_readSome_27 : decode cX9_readSome 27 = .ok (.aload_n 0, 1) := by decide +kernel
theorem dX9_readSome_28 : decode cX9_readSome 28 = .ok (.invokevirtual 138, 3) := by decide +kernel
theorem dX9_readSome_31 : decode cX9_readSome 31 = .ok (.iconst 1, 1) := by decide +kernel
theorem dX9_readSome_32 : decode cX9_readSome 32 = .ok (.istore_n 3, 1) := by decide +kernel
theorem dX9_readSome_33 : decode cX9_readSome 33 = .ok (.aload_n 0, 1) := by decide +kernel
theorem dX9_readSome_34 : decode cX9_readSome 34 = .ok (.ldc 206, 2) := by decide +kernel
theorem dX9_readSome_36 : decode cX9_readSome 36 = .ok (.invokevirtual 141, 3) := by decide +kernel
theorem dX9_readSome_39 : decode cX9_readSome 39 = .ok (.ifCond .eq 40, 3) := by decide +kernel
theorem dX9_readSome_42 : decode cX9_readSome 42 = .ok (.aload_n 0, 1) := by decide +kernel
theorem dX9_readSome_43 : decode cX9_readSome 43 = .ok (.invokevirtual 138, 3) := by decide +kernel
theorem dX9_readSome_46 : decode cX9_readSome 46 = .ok (.aload_n 0, 1) := by decide +kernel
theorem dX9_readSome_47 : decode cX9_readSome 47 = .ok (.iconst 1, 1) := by decide +kernel
theorem dX9_readSome_48 : decode cX9_readSome 48 = .ok (.bipush 16, 2) := by decide +kernel
theorem dX9_readSome_50 : decode cX9_readSome 50 = .ok (.invokevirtual 134, 3) := by decide +kernel
theorem dX9_readSome_53 : decode cX9_readSome 53 = .ok (.istore_n 3, 1) := by decide +kernel
theorem dX9_readSome_54 : decode cX9_readSome 54 = .ok (.aload_n 0, 1) := by decide +kernel
theorem dX9_readSome_55 : decode cX9_readSome 55 = .ok (.getfield 84, 3) := by decide +kernel
theorem dX9_readSome_58 : decode cX9_readSome 58 = .ok (.ifCond .ne 17, 3) := by decide +kernel
theorem dX9_readSome_61 : decode cX9_readSome 61 = .ok (.iload_n 1, 1) := by decide +kernel
theorem dX9_readSome_62 : decode cX9_readSome 62 = .ok (.iload_n 3, 1) := by decide +kernel
theorem dX9_readSome_63 : decode cX9_readSome 63 = .ok (.iadd, 1) := by decide +kernel
theorem dX9_readSome_64 : decode cX9_readSome 64 = .ok (.bipush 16, 2) := by decide +kernel
theorem dX9_readSome_66 : decode cX9_readSome 66 = .ok (.if_icmp .le 9, 3) := by decide +kernel
theorem dX9_readSome_69 : decode cX9_readSome 69 = .ok (.aload_n 0, 1) := by decide +kernel
theorem dX9_readSome_70 : decode cX9_readSome 70 = .ok (.bipush 6, 2) := by decide +kernel
theorem dX9_readSome_72 : decode cX9_readSome 72 = .ok (.invokevirtual 131, 3) := by decide +kernel
theorem dX9_readSome_75 : decode cX9_readSome 75 = .ok (.aload_n 0, 1) := by decide +kernel
theorem dX9_readSome_76 : decode cX9_readSome 76 = .ok (.invokevirtual 138, 3) := by decide +kernel
theorem dX9_readSome_79 : decode cX9_readSome 79 = .ok (.aload_n 0, 1) := by decide +kernel
theorem dX9_readSome_80 : decode cX9_readSome 80 = .ok (.getfield 84, 3) := by decide +kernel
theorem dX9_readSome_83 : decode cX9_readSome 83 = .ok (.ifCond .le 5, 3) := by decide +kernel
theorem dX9_readSome_86 : decode cX9_readSome 86 = .ok (.iload_n 1, 1) := by decide +kernel
theorem dX9_readSome_87 : decode cX9_readSome 87 = .ok (.ireturn, 1) := by decide +kernel
theorem dX9_readSome_88 : decode cX9_readSome 88 = .ok (.iload_n 1, 1) := by decide +kernel
theorem dX9_readSome_89 : decode cX9_readSome 89 = .ok (.istore 4, 2) := by decide +kernel
theorem dX9_readSome_91 : decode cX9_readSome 91 = .ok (.iload 4, 2) := by decide +kernel
theorem dX9_readSome_93 : decode cX9_readSome 93 = .ok (.iload_n 1, 1) := by decide +kernel
theorem dX9_readSome_94 : decode cX9_readSome 94 = .ok (.iload_n 3, 1) := by decide +kernel
theorem dX9_readSome_95 : decode cX9_readSome 95 = .ok (.iadd, 1) := by decide +kernel
theorem dX9_readSome_96 : decode cX9_readSome 96 = .ok (.if_icmp .ge 25, 3) := by decide +kernel
theorem dX9_readSome_99 : decode cX9_readSome 99 = .ok (.aload_n 0, 1) := by decide +kernel
theorem dX9_readSome_100 : decode cX9_readSome 100 = .ok (.getfield 32, 3) := by decide +kernel
theorem dX9_readSome_103 : decode cX9_readSome 103 = .ok (.bipush 16, 2) := by decide +kernel
theorem dX9_readSome_105 : decode cX9_readSome 105 = .ok (.aload_n 0, 1) := by decide +kernel
theorem dX9_readSome_106 : decode cX9_readSome 106 = .ok (.getfield 151, 3) := by decide +kernel
theorem dX9_readSome_109 : decode cX9_readSome 109 = .ok (.imul, 1) := by decide +kernel
theorem dX9_readSome_110 : decode cX9_readSome 110 = .ok (.iload 4, 2) := by decide +kernel
theorem dX9_readSome_112 : decode cX9_readSome 112 = .ok (.iadd, 1) := by decide +kernel
theorem dX9_readSome_113 : decode cX9_readSome 113 = .ok (.iload_n 2, 1) := by decide +kernel
theorem dX9_readSome_114 : decode cX9_readSome 114 = .ok (.iastore, 1) := by decide +kernel
theorem dX9_readSome_115 : decode cX9_readSome 115 = .ok (.iinc 4 1, 3) := by decide +kernel
theorem dX9_readSome_118 : decode cX9_readSome 118 = .ok (.goto (-27), 3) := by decide +kernel
theorem dX9_readSome_121 : decode cX9_readSome 121 = .ok (.iload_n 1, 1) := by decide +kernel
theorem dX9_readSome_122 : decode cX9_readSome 122 = .ok (.iload_n 3, 1) := by decide +kernel
theorem dX9_readSome_123 : decode cX9_readSome 123 = .ok (.iadd, 1) := by decide +kernel
theorem dX9_readSome_124 : decode cX9_readSome 124 = .ok (.ireturn, 1) := by decide +kernel
theorem dX9_readOp_0 : decode cX9_readOp 0 = .ok (.aload_n 0, 1) := by decide +kernel
theorem dX9_readOp_1 : decode cX9_readOp 1 = .ok (.aload_n 0, 1) := by decide +kernel
theorem dX9_readOp_2 : decode cX9_readOp 2 = .ok (.getfield 154, 3) := by decide +kernel
theorem dX9_readOp_5 : decode cX9_readOp 5 = .ok (.bipush 24, 2) := by decide +kernel
theorem dX9_readOp_7 : decode cX9_readOp 7 = .ok (.if_icmp .ne 7, 3) := by decide +kernel
theorem dX9_readOp_10 : decode cX9_readOp 10 = .ok (.iconst 1, 1) := by decide +kernel
theorem dX9_readOp_11 : decode cX9_readOp 11 = .ok (.goto 4, 3) := by decide +kernel
theorem dX9_readOp_14 : decode cX9_readOp 14 = .ok (.iconst 0, 1) := by decide +kernel
theorem dX9_readOp_15 : decode cX9_readOp 15 = .ok (.invokevirtual 199, 3) := by decide +kernel
theorem dX9_readOp_18 : decode cX9_readOp 18 = .ok (.aload_n 0, 1) := by decide +kernel
theorem dX9_readOp_19 : decode cX9_readOp 19 = .ok (.iconst 0, 1) := by decide +kernel
theorem dX9_readOp_20 : decode cX9_readOp 20 = .ok (.bipush 29, 2) := by decide +kernel
theorem dX9_readOp_22 : decode cX9_readOp 22 = .ok (.invokevirtual 145, 3) := by decide +kernel
theorem dX9_readOp_25 : decode cX9_readOp 25 = .ok (.istore_n 2, 1) := by decide +kernel
theorem dX9_readOp_26 : decode cX9_readOp 26 = .ok (.iload_n 1, 1) := by decide +kernel
theorem dX9_readOp_27 : decode cX9_readOp 27 = .ok (.ifCond .ne 17, 3) := by decide +kernel
theorem dX9_readOp_30 : decode cX9_readOp 30 = .ok (.aload_n 0, 1) := by decide +kernel
theorem dX9_readOp_31 : decode cX9_readOp 31 = .ok (.iconst 0, 1) := by decide +kernel
theorem dX9_readOp_32 : decode cX9_readOp 32 = .ok (.aload_n 0, 1) := by decide +kernel
theorem dX9_readOp_33 : decode cX9_readOp 33 = .ok (.getfield 151, 3) := by decide +kernel
theorem dX9_readOp_36 : decode cX9_readOp 36 = .ok (.iconst 1, 1) := by decide +kernel
theorem dX9_readOp_37 : decode cX9_readOp 37 = .ok (.isub, 1) := by decide +kernel
theorem dX9_readOp_38 : decode cX9_readOp 38 = .ok (.invokevirtual 145, 3) := by decide +kernel
theorem dX9_readOp_41 : decode cX9_readOp 41 = .ok (.goto 5, 3) := by decide +kernel
theorem dX9_readOp_44 : decode cX9_readOp 44 = .ok (.bipush (-2), 2) := by decide +kernel
theorem dX9_readOp_46 : decode cX9_readOp 46 = .ok (.istore_n 3, 1) := by decide +kernel
theorem dX9_readOp_47 : decode cX9_readOp 47 = .ok (.aload_n 0, 1) := by decide +kernel
theorem dX9_readOp_48 : decode cX9_readOp 48 = .ok (.getfield 84, 3) := by decide +kernel
theorem dX9_readOp_51 : decode cX9_readOp 51 = .ok (.ifCond .le 4, 3) := by decide +kernel
theorem dX9_readOp_54 : decode cX9_readOp 54 = .ok (.return_, 1) := by decide +kernel
theorem dX9_readOp_55 : decode cX9_readOp 55 = .ok (.aload_n 0, 1) := by decide +kernel
theorem dX9_readOp_56 : decode cX9_readOp 56 = .ok (.getfield 23, 3) := by decide +kernel
theorem dX9_readOp_59 : decode cX9_readOp 59 = .ok (.aload_n 0, 1) := by decide +kernel
theorem dX9_readOp_60 : decode cX9_readOp 60 = .ok (.getfield 154, 3) := by decide +kernel
theorem dX9_readOp_63 : decode cX9_readOp 63 = .ok (.iload_n 1, 1) := by decide +kernel
theorem dX9_readOp_64 : decode cX9_readOp 64 = .ok (.iastore, 1) := by decide +kernel
theorem dX9_readOp_65 : decode cX9_readOp 65 = .ok (.aload_n 0, 1) := by decide +kernel
theorem dX9_readOp_66 : decode cX9_readOp 66 = .ok (.getfield 26, 3) := by decide +kernel
theorem dX9_readOp_69 : decode cX9_readOp 69 = .ok (.aload_n 0, 1) := by decide +kernel
theorem dX9_readOp_70 : decode cX9_readOp 70 = .ok (.getfield 154, 3) := by decide +kernel
theorem dX9_readOp_73 : decode cX9_readOp 73 = .ok (.iload_n 2, 1) := by decide +kernel
theorem dX9_readOp_74 : decode cX9_readOp 74 = .ok (.iastore, 1) := by decide +kernel
theorem dX9_readOp_75 : decode cX9_readOp 75 = .ok (.aload_n 0, 1) := by decide +kernel
theorem dX9_readOp_76 : decode cX9_readOp 76 = .ok (.getfield 29, 3) := by decide +kernel
theorem dX9_readOp_79 : decode cX9_readOp 79 = .ok (.aload_n 0, 1) := by decide +kernel
theorem dX9_readOp_80 : decode cX9_readOp 80 = .ok (.getfield 154, 3) := by decide +kernel
theorem dX9_readOp_83 : decode cX9_readOp 83 = .ok (.iload_n 3, 1) := by decide +kernel
theorem dX9_readOp_84 : decode cX9_readOp 84 = .ok (.iastore, 1) := by decide +kernel
theorem dX9_readOp_85 : decode cX9_readOp 85 = .ok (.aload_n 0, 1) := by decide +kernel
theorem dX9_readOp_86 : decode cX9_readOp 86 = .ok (.dup, 1) := by decide +kernel
theorem dX9_readOp_87 : decode cX9_readOp 87 = .ok (.getfield 154, 3) := by decide +kernel
theorem dX9_readOp_90 : decode cX9_readOp 90 = .ok (.iconst 1, 1) := by decide +kernel
theorem dX9_readOp_91 : decode cX9_readOp 91 = .ok (.iadd, 1) := by decide +kernel
theorem dX9_readOp_92 : decode cX9_readOp 92 = .ok (.putfield 154, 3) := by decide +kernel
theorem dX9_readOp_95 : decode cX9_readOp 95 = .ok (.return_, 1) := by decide +kernel
theorem dX9_feed_0 : decode cX9_feed 0 = .ok (.aload_n 0, 1) := by decide +kernel
theorem dX9_feed_1 : decode cX9_feed 1 = .ok (.iconst 0, 1) := by decide +kernel
theorem dX9_feed_2 : decode cX9_feed 2 = .ok (.putfield 75, 3) := by decide +kernel
theorem dX9_feed_5 : decode cX9_feed 5 = .ok (.aload_n 0, 1) := by decide +kernel
theorem dX9_feed_6 : decode cX9_feed 6 = .ok (.getfield 207, 3) := by decide +kernel
theorem dX9_feed_9 : decode cX9_feed 9 = .ok (.bipush 20, 2) := by decide +kernel
theorem dX9_feed_11 : decode cX9_feed 11 = .ok (.iadd, 1) := by decide +kernel
theorem dX9_feed_12 : decode cX9_feed 12 = .ok (.sipush 900, 3) := by decide +kernel
theorem dX9_feed_15 : decode cX9_feed 15 = .ok (.if_icmp .le 5, 3) := by decide +kernel
theorem dX9_feed_18 : decode cX9_feed 18 = .ok (.iconst (-1), 1) := by decide +kernel
theorem dX9_feed_19 : decode cX9_feed 19 = .ok (.ireturn, 1) := by decide +kernel
theorem dX9_feed_20 : decode cX9_feed 20 = .ok (.iconst 0, 1) := by decide +kernel
theorem dX9_feed_21 : decode cX9_feed 21 = .ok (.istore 6, 2) := by decide +kernel
theorem dX9_feed_23 : decode cX9_feed 23 = .ok (.iload 6, 2) := by decide +kernel
theorem dX9_feed_25 : decode cX9_feed 25 = .ok (.bipush 20, 2) := by decide +kernel
theorem dX9_feed_27 : decode cX9_feed 27 = .ok (.if_icmp .ge 90, 3) := by decide +kernel
theorem dX9_feed_30 : decode cX9_feed 30 = .ok (.iload 6, 2) := by decide +kernel
theorem dX9_feed_32 : decode cX9_feed 32 = .ok (.iconst 4, 1) := by decide +kernel
theorem dX9_feed_33 : decode cX9_feed 33 = .ok (.if_icmp .ge 7, 3) := by decide +kernel
theorem dX9_feed_36 : decode cX9_feed 36 = .ok (.iload_n 1, 1) := by decide +kernel
theorem dX9_feed_37 : decode cX9_feed 37 = .ok (.goto 39, 3) := by decide +kernel
theorem dX9_feed_40 : decode cX9_feed 40 = .ok (.iload 6, 2) := by decide +kernel
theorem dX9_feed_42 : decode cX9_feed 42 = .ok (.bipush 8, 2) := by decide +kernel
theorem dX9_feed_44 : decode cX9_feed 44 = .ok (.if_icmp .ge 7, 3) := by decide +kernel
theorem dX9_feed_47 : decode cX9_feed 47 = .ok (.iload_n 2, 1) := by decide +kernel
theorem dX9_feed_48 : decode cX9_feed 48 = .ok (.goto 28, 3) := by decide +kernel
theorem dX9_feed_51 : decode cX9_feed 51 = .ok (.iload 6, 2) := by decide +kernel
theorem dX9_feed_53 : decode cX9_feed 53 = .ok (.bipush 12, 2) := by decide +kernel
theorem dX9_feed_55 : decode cX9_feed 55 = .ok (.if_icmp .ge 7, 3) := by decide +kernel
theorem dX9_feed_58 : decode cX9_feed 58 = .ok (.iload_n 3, 1) := by decide +kernel
theorem dX9_feed_59 : decode cX9_feed 59 = .ok (.goto 17, 3) := by decide +kernel
theorem dX9_feed_62 : decode cX9_feed 62 = .ok (.iload 6, 2) := by decide +kernel
theorem dX9_feed_64 : decode cX9_feed 64 = .ok (.bipush 16, 2) := by decide +kernel
theorem dX9_feed_66 : decode cX9_feed 66 = .ok (.if_icmp .ge 8, 3) := by decide +kernel
theorem dX9_feed_69 : decode cX9_feed 69 = .ok (.iload 4, 2) := by decide +kernel
theorem dX9_feed_71 : decode cX9_feed 71 = .ok (.goto 5, 3) := by decide +kernel
theorem dX9_feed_74 : decode cX9_feed 74 = .ok (.iload 5, 2) := by decide +kernel
theorem dX9_feed_76 : decode cX9_feed 76 = .ok (.istore 7, 2) := by decide +kernel
theorem dX9_feed_78 : decode cX9_feed 78 = .ok (.aload_n 0, 1) := by decide +kernel
theorem dX9_feed_79 : decode cX9_feed 79 = .ok (.getfield 44, 3) := by decide +kernel
theorem dX9_feed_82 : decode cX9_feed 82 = .ok (.aload_n 0, 1) := by decide +kernel
theorem dX9_feed_83 : decode cX9_feed 83 = .ok (.getfield 207, 3) := by decide +kernel
theorem dX9_feed_86 : decode cX9_feed 86 = .ok (.iload 7, 2) := by decide +kernel
theorem dX9_feed_88 : decode cX9_feed 88 = .ok (.bipush 24, 2) := by decide +kernel
theorem dX9_feed_90 : decode cX9_feed 90 = .ok (.bipush 8, 2) := by decide +kernel
theorem dX9_feed_92 : decode cX9_feed 92 = .ok (.iload 6, 2) := by decide +kernel
theorem dX9_feed_94 : decode cX9_feed 94 = .ok (.iconst 4, 1) := by decide +kernel
theorem dX9_feed_95 : decode cX9_feed 95 = .ok (.irem, 1) := by decide +kernel
theorem dX9_feed_96 : decode cX9_feed 96 = .ok (.imul, 1) := by decide +kernel
theorem dX9_feed_97 : decode cX9_feed 97 = .ok (.isub, 1) := by decide +kernel
theorem dX9_feed_98 : decode cX9_feed 98 = .ok (.ishr, 1) := by decide +kernel
theorem dX9_feed_99 : decode cX9_feed 99 = .ok (.i2b, 1) := by decide +kernel
theorem dX9_feed_100 : decode cX9_feed 100 = .ok (.bastore, 1) := by decide +kernel
theorem dX9_feed_101 : decode cX9_feed 101 = .ok (.aload_n 0, 1) := by decide +kernel
theorem dX9_feed_102 : decode cX9_feed 102 = .ok (.dup, 1) := by decide +kernel
theorem dX9_feed_103 : decode cX9_feed 103 = .ok (.getfield 207, 3) := by decide +kernel
theorem dX9_feed_106 : decode cX9_feed 106 = .ok (.iconst 1, 1) := by decide +kernel
theorem dX9_feed_107 : decode cX9_feed 107 = .ok (.iadd, 1) := by decide +kernel
theorem dX9_feed_108 : decode cX9_feed 108 = .ok (.putfield 207, 3) := by decide +kernel
theorem dX9_feed_111 : decode cX9_feed 111 = .ok (.iinc 6 1, 3) := by decide +kernel
theorem dX9_feed_114 : decode cX9_feed 114 = .ok (.goto (-91), 3) := by decide +kernel
theorem dX9_feed_117 : decode cX9_feed 117 = .ok (.aload_n 0, 1) := by decide +kernel
theorem dX9_feed_118 : decode cX9_feed 118 = .ok (.getfield 207, 3) := by decide +kernel
theorem dX9_feed_121 : decode cX9_feed 121 = .ok (.ireturn, 1) := by decide +kernel
theorem dX9_swap_0 : decode cX9_swap 0 = .ok (.aload_n 0, 1) := by decide +kernel
theorem dX9_swap_1 : decode cX9_swap 1 = .ok (.iconst 0, 1) := by decide +kernel
theorem dX9_swap_2 : decode cX9_swap 2 = .ok (.putfield 75, 3) := by decide +kernel
theorem dX9_swap_5 : decode cX9_swap 5 = .ok (.iload_n 1, 1) := by decide +kernel
theorem dX9_swap_6 : decode cX9_swap 6 = .ok (.ifCond .lt 11, 3) := by decide +kernel
theorem dX9_swap_9 : decode cX9_swap 9 = .ok (.iload_n 1, 1) := by decide +kernel
theorem dX9_swap_10 : decode cX9_swap 10 = .ok (.aload_n 0, 1) := by decide +kernel
theorem dX9_swap_11 : decode cX9_swap 11 = .ok (.getfield 207, 3) := by decide +kernel
theorem dX9_swap_14 : decode cX9_swap 14 = .ok (.if_icmp .le 9, 3) := by decide +kernel
theorem dX9_swap_17 : decode cX9_swap 17 = .ok (.aload_n 0, 1) := by decide +kernel
theorem dX9_swap_18 : decode cX9_swap 18 = .ok (.iconst 2, 1) := by decide +kernel
theorem dX9_swap_19 : decode cX9_swap 19 = .ok (.invokevirtual 210, 3) := by decide +kernel
theorem dX9_swap_22 : decode cX9_swap 22 = .ok (.ireturn, 1) := by decide +kernel
theorem dX9_swap_23 : decode cX9_swap 23 = .ok (.aload_n 0, 1) := by decide +kernel
theorem dX9_swap_24 : decode cX9_swap 24 = .ok (.iload_n 1, 1) := by decide +kernel
theorem dX9_swap_25 : decode cX9_swap 25 = .ok (.putfield 81, 3) := by decide +kernel
theorem dX9_swap_28 : decode cX9_swap 28 = .ok (.aload_n 0, 1) := by decide +kernel
theorem dX9_swap_29 : decode cX9_swap 29 = .ok (.iconst 0, 1) := by decide +kernel
theorem dX9_swap_30 : decode cX9_swap 30 = .ok (.putfield 207, 3) := by decide +kernel
theorem dX9_swap_33 : decode cX9_swap 33 = .ok (.aload_n 0, 1) := by decide +kernel
theorem dX9_swap_34 : decode cX9_swap 34 = .ok (.iconst 0, 1) := by decide +kernel
theorem dX9_swap_35 : decode cX9_swap 35 = .ok (.putfield 87, 3) := by decide +kernel
theorem dX9_swap_38 : decode cX9_swap 38 = .ok (.aload_n 0, 1) := by decide +kernel
theorem dX9_swap_39 : decode cX9_swap 39 = .ok (.iconst 0, 1) := by decide +kernel
theorem dX9_swap_40 : decode cX9_swap 40 = .ok (.putfield 84, 3) := by decide +kernel
theorem dX9_swap_43 : decode cX9_swap 43 = .ok (.aload_n 0, 1) := by decide +kernel
theorem dX9_swap_44 : decode cX9_swap 44 = .ok (.invokevirtual 213, 3) := by decide +kernel
theorem dX9_swap_47 : decode cX9_swap 47 = .ok (.aload_n 0, 1) := by decide +kernel
theorem dX9_swap_48 : decode cX9_swap 48 = .ok (.getfield 84, 3) := by decide +kernel
theorem dX9_swap_51 : decode cX9_swap 51 = .ok (.ifCond .le 18, 3) := by decide +kernel
theorem dX9_swap_54 : decode cX9_swap 54 = .ok (.aload_n 0, 1) := by decide +kernel
theorem dX9_swap_55 : decode cX9_swap 55 = .ok (.iconst 4, 1) := by decide +kernel
theorem dX9_swap_56 : decode cX9_swap 56 = .ok (.putfield 78, 3) := by decide +kernel
theorem dX9_swap_59 : decode cX9_swap 59 = .ok (.aload_n 0, 1) := by decide +kernel
theorem dX9_swap_60 : decode cX9_swap 60 = .ok (.aload_n 0, 1) := by decide +kernel
theorem dX9_swap_61 : decode cX9_swap 61 = .ok (.getfield 94, 3) := by decide +kernel
theorem dX9_swap_64 : decode cX9_swap 64 = .ok (.putfield 9, 3) := by decide +kernel
theorem dX9_swap_67 : decode cX9_swap 67 = .ok (.iconst (-1), 1) := by decide +kernel
theorem dX9_swap_68 : decode cX9_swap 68 = .ok (.ireturn, 1) := by decide +kernel
theorem dX9_swap_69 : decode cX9_swap 69 = .ok (.aload_n 0, 1) := by decide +kernel
theorem dX9_swap_70 : decode cX9_swap 70 = .ok (.invokevirtual 216, 3) := by decide +kernel
theorem dX9_swap_73 : decode cX9_swap 73 = .ok (.aload_n 0, 1) := by decide +kernel
theorem dX9_swap_74 : decode cX9_swap 74 = .ok (.aload_n 0, 1) := by decide +kernel
theorem dX9_swap_75 : decode cX9_swap 75 = .ok (.getfield 219, 3) := by decide +kernel
theorem dX9_swap_78 : decode cX9_swap 78 = .ok (.invokevirtual 222, 3) := by decide +kernel
theorem dX9_swap_81 : decode cX9_swap 81 = .ok (.ireturn, 1) := by decide +kernel
theorem dX9_takesOver_0 : decode cX9_takesOver 0 = .ok (.aload_n 0, 1) := by decide +kernel
theorem dX9_takesOver_1 : decode cX9_takesOver 1 = .ok (.iconst 1, 1) := by decide +kernel
theorem dX9_takesOver_2 : decode cX9_takesOver 2 = .ok (.putfield 225, 3) := by decide +kernel
theorem dX9_takesOver_5 : decode cX9_takesOver 5 = .ok (.aload_n 0, 1) := by decide +kernel
theorem dX9_takesOver_6 : decode cX9_takesOver 6 = .ok (.aload_n 0, 1) := by decide +kernel
theorem dX9_takesOver_7 : decode cX9_takesOver 7 = .ok (.getfield 193, 3) := by decide +kernel
theorem dX9_takesOver_10 : decode cX9_takesOver 10 = .ok (.putfield 229, 3) := by decide +kernel
theorem dX9_takesOver_13 : decode cX9_takesOver 13 = .ok (.aload_n 0, 1) := by decide +kernel
theorem dX9_takesOver_14 : decode cX9_takesOver 14 = .ok (.aload_n 0, 1) := by decide +kernel
theorem dX9_takesOver_15 : decode cX9_takesOver 15 = .ok (.getfield 196, 3) := by decide +kernel
theorem dX9_takesOver_18 : decode cX9_takesOver 18 = .ok (.putfield 231, 3) := by decide +kernel
theorem dX9_takesOver_21 : decode cX9_takesOver 21 = .ok (.aload_n 0, 1) := by decide +kernel
theorem dX9_takesOver_22 : decode cX9_takesOver 22 = .ok (.aload_n 0, 1) := by decide +kernel
theorem dX9_takesOver_23 : decode cX9_takesOver 23 = .ok (.getfield 151, 3) := by decide +kernel
theorem dX9_takesOver_26 : decode cX9_takesOver 26 = .ok (.putfield 219, 3) := by decide +kernel
theorem dX9_takesOver_29 : decode cX9_takesOver 29 = .ok (.aload_n 0, 1) := by decide +kernel
theorem dX9_takesOver_30 : decode cX9_takesOver 30 = .ok (.aload_n 0, 1) := by decide +kernel
theorem dX9_takesOver_31 : decode cX9_takesOver 31 = .ok (.getfield 154, 3) := by decide +kernel
theorem dX9_takesOver_34 : decode cX9_takesOver 34 = .ok (.putfield 233, 3) := by decide +kernel
theorem dX9_takesOver_37 : decode cX9_takesOver 37 = .ok (.iconst 0, 1) := by decide +kernel
theorem dX9_takesOver_38 : decode cX9_takesOver 38 = .ok (.istore_n 1, 1) := by decide +kernel
theorem dX9_takesOver_39 : decode cX9_takesOver 39 = .ok (.iload_n 1, 1) := by decide +kernel
theorem dX9_takesOver_40 : decode cX9_takesOver 40 = .ok (.bipush 24, 2) := by decide +kernel
theorem dX9_takesOver_42 : decode cX9_takesOver 42 = .ok (.if_icmp .ge 45, 3) := by decide +kernel
theorem dX9_takesOver_45 : decode cX9_takesOver 45 = .ok (.aload_n 0, 1) := by decide +kernel
theorem dX9_takesOver_46 : decode cX9_takesOver 46 = .ok (.getfield 13, 3) := by decide +kernel
theorem dX9_takesOver_49 : decode cX9_takesOver 49 = .ok (.iload_n 1, 1) := by decide +kernel
theorem dX9_takesOver_50 : decode cX9_takesOver 50 = .ok (.aload_n 0, 1) := by decide +kernel
theorem dX9_takesOver_51 : decode cX9_takesOver 51 = .ok (.getfield 23, 3) := by decide +kernel
theorem dX9_takesOver_54 : decode cX9_takesOver 54 = .ok (.iload_n 1, 1) := by decide +kernel
theorem dX9_takesOver_55 : decode cX9_takesOver 55 = .ok (.iaload, 1) := by decide +kernel
theorem dX9_takesOver_56 : decode cX9_takesOver 56 = .ok (.iastore, 1) := by decide +kernel
theorem dX9_takesOver_57 : decode cX9_takesOver 57 = .ok (.aload_n 0, 1) := by decide +kernel
theorem dX9_takesOver_58 : decode cX9_takesOver 58 = .ok (.getfield 17, 3) := by decide +kernel
theorem dX9_takesOver_61 : decode cX9_takesOver 61 = .ok (.iload_n 1, 1) := by decide +kernel
theorem dX9_takesOver_62 : decode cX9_takesOver 62 = .ok (.aload_n 0, 1) := by decide +kernel
theorem dX9_takesOver_63 : decode cX9_takesOver 63 = .ok (.getfield 26, 3) := by decide +kernel
theorem dX9_takesOver_66 : decode cX9_takesOver 66 = .ok (.iload_n 1, 1) := by decide +kernel
theorem dX9_takesOver_67 : decode cX9_takesOver 67 = .ok (.iaload, 1) := by decide +kernel
theorem dX9_takesOver_68 : decode cX9_takesOver 68 = .ok (.iastore, 1) := by decide +kernel
theorem dX9_takesOver_69 : decode cX9_takesOver 69 = .ok (.aload_n 0, 1) := by decide +kernel
theorem dX9_takesOver_70 : decode cX9_takesOver 70 = .ok (.getfield 20, 3) := by decide +kernel
theorem dX9_takesOver_73 : decode cX9_takesOver 73 = .ok (.iload_n 1, 1) := by decide +kernel
theorem dX9_takesOver_74 : decode cX9_takesOver 74 = .ok (.aload_n 0, 1) := by decide +kernel
theorem dX9_takesOver_75 : decode cX9_takesOver 75 = .ok (.getfield 29, 3) := by decide +kernel
theorem dX9_takesOver_78 : decode cX9_takesOver 78 = .ok (.iload_n 1, 1) := by decide +kernel
theorem dX9_takesOver_79 : decode cX9_takesOver 79 = .ok (.iaload, 1) := by decide +kernel
theorem dX9_takesOver_80 : decode cX9_takesOver 80 = .ok (.iastore, 1) := by decide +kernel
theorem dX9_takesOver_81 : decode cX9_takesOver 81 = .ok (.iinc 1 1, 3) := by decide +kernel
theorem dX9_takesOver_84 : decode cX9_takesOver 84 = .ok (.goto (-45), 3) := by decide +kernel
theorem dX9_takesOver_87 : decode cX9_takesOver 87 = .ok (.aload_n 0, 1) := by decide +kernel
theorem dX9_takesOver_88 : decode cX9_takesOver 88 = .ok (.invokevirtual 236, 3) := by decide +kernel
theorem dX9_takesOver_91 : decode cX9_takesOver 91 = .ok (.aload_n 0, 1) := by decide +kernel
theorem dX9_takesOver_92 : decode cX9_takesOver 92 = .ok (.getfield 35, 3) := by decide +kernel
theorem dX9_takesOver_95 : decode cX9_takesOver 95 = .ok (.iconst 0, 1) := by decide +kernel
theorem dX9_takesOver_96 : decode cX9_takesOver 96 = .ok (.aload_n 0, 1) := by decide +kernel
theorem dX9_takesOver_97 : decode cX9_takesOver 97 = .ok (.getfield 148, 3) := by decide +kernel
theorem dX9_takesOver_100 : decode cX9_takesOver 100 = .ok (.iastore, 1) := by decide +kernel
theorem dX9_takesOver_101 : decode cX9_takesOver 101 = .ok (.iconst 0, 1) := by decide +kernel
theorem dX9_takesOver_102 : decode cX9_takesOver 102 = .ok (.istore_n 1, 1) := by decide +kernel
theorem dX9_takesOver_103 : decode cX9_takesOver 103 = .ok (.iload_n 1, 1) := by decide +kernel
theorem dX9_takesOver_104 : decode cX9_takesOver 104 = .ok (.sipush 160, 3) := by decide +kernel
theorem dX9_takesOver_107 : decode cX9_takesOver 107 = .ok (.if_icmp .ge 23, 3) := by decide +kernel
theorem dX9_takesOver_110 : decode cX9_takesOver 110 = .ok (.aload_n 0, 1) := by decide +kernel
theorem dX9_takesOver_111 : decode cX9_takesOver 111 = .ok (.getfield 35, 3) := by decide +kernel
theorem dX9_takesOver_114 : decode cX9_takesOver 114 = .ok (.iconst 5, 1) := by decide +kernel
theorem dX9_takesOver_115 : decode cX9_takesOver 115 = .ok (.iload_n 1, 1) := by decide +kernel
theorem dX9_takesOver_116 : decode cX9_takesOver 116 = .ok (.iadd, 1) := by decide +kernel
theorem dX9_takesOver_117 : decode cX9_takesOver 117 = .ok (.aload_n 0, 1) := by decide +kernel
theorem dX9_takesOver_118 : decode cX9_takesOver 118 = .ok (.getfield 32, 3) := by decide +kernel
theorem dX9_takesOver_121 : decode cX9_takesOver 121 = .ok (.iload_n 1, 1) := by decide +kernel
theorem dX9_takesOver_122 : decode cX9_takesOver 122 = .ok (.iaload, 1) := by decide +kernel
theorem dX9_takesOver_123 : decode cX9_takesOver 123 = .ok (.iastore, 1) := by decide +kernel
theorem dX9_takesOver_124 : decode cX9_takesOver 124 = .ok (.iinc 1 1, 3) := by decide +kernel
theorem dX9_takesOver_127 : decode cX9_takesOver 127 = .ok (.goto (-24), 3) := by decide +kernel
theorem dX9_takesOver_130 : decode cX9_takesOver 130 = .ok (.aload_n 0, 1) := by decide +kernel
theorem dX9_takesOver_131 : decode cX9_takesOver 131 = .ok (.iconst 0, 1) := by decide +kernel
theorem dX9_takesOver_132 : decode cX9_takesOver 132 = .ok (.putfield 239, 3) := by decide +kernel
theorem dX9_takesOver_135 : decode cX9_takesOver 135 = .ok (.return_, 1) := by decide +kernel
theorem dX9_clears_0 : decode cX9_clears 0 = .ok (.iconst 0, 1) := by decide +kernel
theorem dX9_clears_1 : decode cX9_clears 1 = .ok (.istore_n 1, 1) := by decide +kernel
theorem dX9_clears_2 : decode cX9_clears 2 = .ok (.iload_n 1, 1) := by decide +kernel
theorem dX9_clears_3 : decode cX9_clears 3 = .ok (.sipush 1234, 3) := by decide +kernel
theorem dX9_clears_6 : decode cX9_clears 6 = .ok (.if_icmp .ge 31, 3) := by decide +kernel
theorem dX9_clears_9 : decode cX9_clears 9 = .ok (.iload_n 1, 1) := by decide +kernel
theorem dX9_clears_10 : decode cX9_clears 10 = .ok (.ifCond .eq 21, 3) := by decide +kernel
theorem dX9_clears_13 : decode cX9_clears 13 = .ok (.iload_n 1, 1) := by decide +kernel
theorem dX9_clears_14 : decode cX9_clears 14 = .ok (.iconst 5, 1) := by decide +kernel
theorem dX9_clears_15 : decode cX9_clears 15 = .ok (.sipush 164, 3) := by decide +kernel
theorem dX9_clears_18 : decode cX9_clears 18 = .ok (.invokestatic 100, 3) := by decide +kernel
theorem dX9_clears_21 : decode cX9_clears 21 = .ok (.ifCond .ne 10, 3) := by decide +kernel
theorem dX9_clears_24 : decode cX9_clears 24 = .ok (.aload_n 0, 1) := by decide +kernel
theorem dX9_clears_25 : decode cX9_clears 25 = .ok (.getfield 35, 3) := by decide +kernel
theorem dX9_clears_28 : decode cX9_clears 28 = .ok (.iload_n 1, 1) := by decide +kernel
theorem dX9_clears_29 : decode cX9_clears 29 = .ok (.iconst 0, 1) := by decide +kernel
theorem dX9_clears_30 : decode cX9_clears 30 = .ok (.iastore, 1) := by decide +kernel
theorem dX9_clears_31 : decode cX9_clears 31 = .ok (.iinc 1 1, 3) := by decide +kernel
theorem dX9_clears_34 : decode cX9_clears 34 = .ok (.goto (-32), 3) := by decide +kernel
theorem dX9_clears_37 : decode cX9_clears 37 = .ok (.return_, 1) := by decide +kernel
theorem dX9_fault_0 : decode cX9_fault 0 = .ok (.aload_n 0, 1) := by decide +kernel
theorem dX9_fault_1 : decode cX9_fault 1 = .ok (.iconst 0, 1) := by decide +kernel
theorem dX9_fault_2 : decode cX9_fault 2 = .ok (.putfield 75, 3) := by decide +kernel
theorem dX9_fault_5 : decode cX9_fault 5 = .ok (.aload_n 0, 1) := by decide +kernel
theorem dX9_fault_6 : decode cX9_fault 6 = .ok (.getfield 84, 3) := by decide +kernel
theorem dX9_fault_9 : decode cX9_fault 9 = .ok (.ireturn, 1) := by decide +kernel
theorem dX9_where_0 : decode cX9_where 0 = .ok (.aload_n 0, 1) := by decide +kernel
theorem dX9_where_1 : decode cX9_where 1 = .ok (.iconst 0, 1) := by decide +kernel
theorem dX9_where_2 : decode cX9_where 2 = .ok (.putfield 75, 3) := by decide +kernel
theorem dX9_where_5 : decode cX9_where 5 = .ok (.aload_n 0, 1) := by decide +kernel
theorem dX9_where_6 : decode cX9_where 6 = .ok (.getfield 9, 3) := by decide +kernel
theorem dX9_where_9 : decode cX9_where 9 = .ok (.ireturn, 1) := by decide +kernel
theorem dX9_isData_0 : decode cX9_isData 0 = .ok (.aload_n 0, 1) := by decide +kernel
theorem dX9_isData_1 : decode cX9_isData 1 = .ok (.getfield 225, 3) := by decide +kernel
theorem dX9_isData_4 : decode cX9_isData 4 = .ok (.ifCond .eq 19, 3) := by decide +kernel
theorem dX9_isData_7 : decode cX9_isData 7 = .ok (.iload_n 1, 1) := by decide +kernel
theorem dX9_isData_8 : decode cX9_isData 8 = .ok (.ifCond .lt 15, 3) := by decide +kernel
theorem dX9_isData_11 : decode cX9_isData 11 = .ok (.iload_n 1, 1) := by decide +kernel
theorem dX9_isData_12 : decode cX9_isData 12 = .ok (.aload_n 0, 1) := by decide +kernel
theorem dX9_isData_13 : decode cX9_isData 13 = .ok (.getfield 219, 3) := by decide +kernel
theorem dX9_isData_16 : decode cX9_isData 16 = .ok (.if_icmp .ge 7, 3) := by decide +kernel
theorem dX9_isData_19 : decode cX9_isData 19 = .ok (.iconst 1, 1) := by decide +kernel
theorem dX9_isData_20 : decode cX9_isData 20 = .ok (.goto 4, 3) := by decide +kernel
theorem dX9_isData_23 : decode cX9_isData 23 = .ok (.iconst 0, 1) := by decide +kernel
theorem dX9_isData_24 : decode cX9_isData 24 = .ok (.ireturn, 1) := by decide +kernel
theorem dX9_takes_0 : decode cX9_takes 0 = .ok (.iconst 0, 1) := by decide +kernel
theorem dX9_takes_1 : decode cX9_takes 1 = .ok (.istore_n 2, 1) := by decide +kernel
theorem dX9_takes_2 : decode cX9_takes 2 = .ok (.iload_n 2, 1) := by decide +kernel
theorem dX9_takes_3 : decode cX9_takes 3 = .ok (.bipush 16, 2) := by decide +kernel
theorem dX9_takes_5 : decode cX9_takes 5 = .ok (.if_icmp .ge 23, 3) := by decide +kernel
theorem dX9_takes_8 : decode cX9_takes 8 = .ok (.aload_n 0, 1) := by decide +kernel
theorem dX9_takes_9 : decode cX9_takes 9 = .ok (.getfield 48, 3) := by decide +kernel
theorem dX9_takes_12 : decode cX9_takes 12 = .ok (.iload_n 2, 1) := by decide +kernel
theorem dX9_takes_13 : decode cX9_takes 13 = .ok (.aload_n 0, 1) := by decide +kernel
theorem dX9_takes_14 : decode cX9_takes 14 = .ok (.getfield 35, 3) := by decide +kernel
theorem dX9_takes_17 : decode cX9_takes 17 = .ok (.iload_n 1, 1) := by decide +kernel
theorem dX9_takes_18 : decode cX9_takes 18 = .ok (.iload_n 2, 1) := by decide +kernel
theorem dX9_takes_19 : decode cX9_takes 19 = .ok (.iadd, 1) := by decide +kernel
theorem dX9_takes_20 : decode cX9_takes 20 = .ok (.iaload, 1) := by decide +kernel
theorem dX9_takes_21 : decode cX9_takes 21 = .ok (.iastore, 1) := by decide +kernel
theorem dX9_takes_22 : decode cX9_takes 22 = .ok (.iinc 2 1, 3) := by decide +kernel
theorem dX9_takes_25 : decode cX9_takes 25 = .ok (.goto (-23), 3) := by decide +kernel
theorem dX9_takes_28 : decode cX9_takes 28 = .ok (.return_, 1) := by decide +kernel
theorem dX9_runAt_0 : decode cX9_runAt 0 = .ok (.iconst 1, 1) := by decide +kernel
theorem dX9_runAt_1 : decode cX9_runAt 1 = .ok (.istore_n 2, 1) := by decide +kernel
theorem dX9_runAt_2 : decode cX9_runAt 2 = .ok (.iload_n 1, 1) := by decide +kernel
theorem dX9_runAt_3 : decode cX9_runAt 3 = .ok (.iload_n 2, 1) := by decide +kernel
theorem dX9_runAt_4 : decode cX9_runAt 4 = .ok (.iadd, 1) := by decide +kernel
theorem dX9_runAt_5 : decode cX9_runAt 5 = .ok (.bipush 16, 2) := by decide +kernel
theorem dX9_runAt_7 : decode cX9_runAt 7 = .ok (.if_icmp .ge 26, 3) := by decide +kernel
theorem dX9_runAt_10 : decode cX9_runAt 10 = .ok (.aload_n 0, 1) := by decide +kernel
theorem dX9_runAt_11 : decode cX9_runAt 11 = .ok (.getfield 48, 3) := by decide +kernel
theorem dX9_runAt_14 : decode cX9_runAt 14 = .ok (.iload_n 1, 1) := by decide +kernel
theorem dX9_runAt_15 : decode cX9_runAt 15 = .ok (.iload_n 2, 1) := by decide +kernel
theorem dX9_runAt_16 : decode cX9_runAt 16 = .ok (.iadd, 1) := by decide +kernel
theorem dX9_runAt_17 : decode cX9_runAt 17 = .ok (.iaload, 1) := by decide +kernel
theorem dX9_runAt_18 : decode cX9_runAt 18 = .ok (.aload_n 0, 1) := by decide +kernel
theorem dX9_runAt_19 : decode cX9_runAt 19 = .ok (.getfield 48, 3) := by decide +kernel
theorem dX9_runAt_22 : decode cX9_runAt 22 = .ok (.iload_n 1, 1) := by decide +kernel
theorem dX9_runAt_23 : decode cX9_runAt 23 = .ok (.iaload, 1) := by decide +kernel
theorem dX9_runAt_24 : decode cX9_runAt 24 = .ok (.if_icmp .ne 9, 3) := by decide +kernel
theorem dX9_runAt_27 : decode cX9_runAt 27 = .ok (.iinc 2 1, 3) := by decide +kernel
theorem dX9_runAt_30 : decode cX9_runAt 30 = .ok (.goto (-28), 3) := by decide +kernel
theorem dX9_runAt_33 : decode cX9_runAt 33 = .ok (.iload_n 2, 1) := by decide +kernel
theorem dX9_runAt_34 : decode cX9_runAt 34 = .ok (.ireturn, 1) := by decide +kernel
theorem dX9_copyAt_0 : decode cX9_copyAt 0 = .ok (.iconst 0, 1) := by decide +kernel
theorem dX9_copyAt_1 : decode cX9_copyAt 1 = .ok (.istore_n 3, 1) := by decide +kernel
theorem dX9_copyAt_2 : decode cX9_copyAt 2 = .ok (.iload_n 3, 1) := by decide +kernel
theorem dX9_copyAt_3 : decode cX9_copyAt 3 = .ok (.bipush 8, 2) := by decide +kernel
theorem dX9_copyAt_5 : decode cX9_copyAt 5 = .ok (.if_icmp .ge 43, 3) := by decide +kernel
theorem dX9_copyAt_8 : decode cX9_copyAt 8 = .ok (.iload_n 1, 1) := by decide +kernel
theorem dX9_copyAt_9 : decode cX9_copyAt 9 = .ok (.iload_n 2, 1) := by decide +kernel
theorem dX9_copyAt_10 : decode cX9_copyAt 10 = .ok (.if_icmp .lt 38, 3) := by decide +kernel
theorem dX9_copyAt_13 : decode cX9_copyAt 13 = .ok (.iload_n 1, 1) := by decide +kernel
theorem dX9_copyAt_14 : decode cX9_copyAt 14 = .ok (.iload_n 3, 1) := by decide +kernel
theorem dX9_copyAt_15 : decode cX9_copyAt 15 = .ok (.iadd, 1) := by decide +kernel
theorem dX9_copyAt_16 : decode cX9_copyAt 16 = .ok (.bipush 16, 2) := by decide +kernel
theorem dX9_copyAt_18 : decode cX9_copyAt 18 = .ok (.if_icmp .ge 30, 3) := by decide +kernel
theorem dX9_copyAt_21 : decode cX9_copyAt 21 = .ok (.aload_n 0, 1) := by decide +kernel
theorem dX9_copyAt_22 : decode cX9_copyAt 22 = .ok (.getfield 48, 3) := by decide +kernel
theorem dX9_copyAt_25 : decode cX9_copyAt 25 = .ok (.iload_n 1, 1) := by decide +kernel
theorem dX9_copyAt_26 : decode cX9_copyAt 26 = .ok (.iload_n 3, 1) := by decide +kernel
theorem dX9_copyAt_27 : decode cX9_copyAt 27 = .ok (.iadd, 1) := by decide +kernel
theorem dX9_copyAt_28 : decode cX9_copyAt 28 = .ok (.iaload, 1) := by decide +kernel
theorem dX9_copyAt_29 : decode cX9_copyAt 29 = .ok (.aload_n 0, 1) := by decide +kernel
theorem dX9_copyAt_30 : decode cX9_copyAt 30 = .ok (.getfield 48, 3) := by decide +kernel
theorem dX9_copyAt_33 : decode cX9_copyAt 33 = .ok (.iload_n 1, 1) := by decide +kernel
theorem dX9_copyAt_34 : decode cX9_copyAt 34 = .ok (.iload_n 3, 1) := by decide +kernel
theorem dX9_copyAt_35 : decode cX9_copyAt 35 = .ok (.iadd, 1) := by decide +kernel
theorem dX9_copyAt_36 : decode cX9_copyAt 36 = .ok (.iload_n 2, 1) := by decide +kernel
theorem dX9_copyAt_37 : decode cX9_copyAt 37 = .ok (.isub, 1) := by decide +kernel
theorem dX9_copyAt_38 : decode cX9_copyAt 38 = .ok (.iaload, 1) := by decide +kernel
theorem dX9_copyAt_39 : decode cX9_copyAt 39 = .ok (.if_icmp .ne 9, 3) := by decide +kernel
theorem dX9_copyAt_42 : decode cX9_copyAt 42 = .ok (.iinc 3 1, 3) := by decide +kernel
theorem dX9_copyAt_45 : decode cX9_copyAt 45 = .ok (.goto (-43), 3) := by decide +kernel
theorem dX9_copyAt_48 : decode cX9_copyAt 48 = .ok (.iload_n 3, 1) := by decide +kernel
theorem dX9_copyAt_49 : decode cX9_copyAt 49 = .ok (.ireturn, 1) := by decide +kernel
theorem dX9_tries_0 : decode cX9_tries 0 = .ok (.iload_n 3, 1) := by decide +kernel
theorem dX9_tries_1 : decode cX9_tries 1 = .ok (.aload_n 0, 1) := by decide +kernel
theorem dX9_tries_2 : decode cX9_tries 2 = .ok (.getfield 51, 3) := by decide +kernel
theorem dX9_tries_5 : decode cX9_tries 5 = .ok (.iload_n 1, 1) := by decide +kernel
theorem dX9_tries_6 : decode cX9_tries 6 = .ok (.iload_n 2, 1) := by decide +kernel
theorem dX9_tries_7 : decode cX9_tries 7 = .ok (.iadd, 1) := by decide +kernel
theorem dX9_tries_8 : decode cX9_tries 8 = .ok (.iaload, 1) := by decide +kernel
theorem dX9_tries_9 : decode cX9_tries 9 = .ok (.iadd, 1) := by decide +kernel
theorem dX9_tries_10 : decode cX9_tries 10 = .ok (.istore 4, 2) := by decide +kernel
theorem dX9_tries_12 : decode cX9_tries 12 = .ok (.iconst 1, 1) := by decide +kernel
theorem dX9_tries_13 : decode cX9_tries 13 = .ok (.aload_n 0, 1) := by decide +kernel
theorem dX9_tries_14 : decode cX9_tries 14 = .ok (.getfield 54, 3) := by decide +kernel
theorem dX9_tries_17 : decode cX9_tries 17 = .ok (.iload_n 1, 1) := by decide +kernel
theorem dX9_tries_18 : decode cX9_tries 18 = .ok (.iload_n 2, 1) := by decide +kernel
theorem dX9_tries_19 : decode cX9_tries 19 = .ok (.iadd, 1) := by decide +kernel
theorem dX9_tries_20 : decode cX9_tries 20 = .ok (.iaload, 1) := by decide +kernel
theorem dX9_tries_21 : decode cX9_tries 21 = .ok (.iadd, 1) := by decide +kernel
theorem dX9_tries_22 : decode cX9_tries 22 = .ok (.istore 5, 2) := by decide +kernel
theorem dX9_tries_24 : decode cX9_tries 24 = .ok (.iload 4, 2) := by decide +kernel
theorem dX9_tries_26 : decode cX9_tries 26 = .ok (.aload_n 0, 1) := by decide +kernel
theorem dX9_tries_27 : decode cX9_tries 27 = .ok (.getfield 51, 3) := by decide +kernel
theorem dX9_tries_30 : decode cX9_tries 30 = .ok (.iload_n 1, 1) := by decide +kernel
theorem dX9_tries_31 : decode cX9_tries 31 = .ok (.iaload, 1) := by decide +kernel
theorem dX9_tries_32 : decode cX9_tries 32 = .ok (.if_icmp .gt 25, 3) := by decide +kernel
theorem dX9_tries_35 : decode cX9_tries 35 = .ok (.iload 4, 2) := by decide +kernel
theorem dX9_tries_37 : decode cX9_tries 37 = .ok (.aload_n 0, 1) := by decide +kernel
theorem dX9_tries_38 : decode cX9_tries 38 = .ok (.getfield 51, 3) := by decide +kernel
theorem dX9_tries_41 : decode cX9_tries 41 = .ok (.iload_n 1, 1) := by decide +kernel
theorem dX9_tries_42 : decode cX9_tries 42 = .ok (.iaload, 1) := by decide +kernel
theorem dX9_tries_43 : decode cX9_tries 43 = .ok (.if_icmp .ne 15, 3) := by decide +kernel
theorem dX9_tries_46 : decode cX9_tries 46 = .ok (.iload 5, 2) := by decide +kernel
theorem dX9_tries_48 : decode cX9_tries 48 = .ok (.aload_n 0, 1) := by decide +kernel
theorem dX9_tries_49 : decode cX9_tries 49 = .ok (.getfield 54, 3) := by decide +kernel
theorem dX9_tries_52 : decode cX9_tries 52 = .ok (.iload_n 1, 1) := by decide +kernel
theorem dX9_tries_53 : decode cX9_tries 53 = .ok (.iaload, 1) := by decide +kernel
theorem dX9_tries_54 : decode cX9_tries 54 = .ok (.if_icmp .lt 4, 3) := by decide +kernel
theorem dX9_tries_57 : decode cX9_tries 57 = .ok (.return_, 1) := by decide +kernel
theorem dX9_tries_58 : decode cX9_tries 58 = .ok (.aload_n 0, 1) := by decide +kernel
theorem dX9_tries_59 : decode cX9_tries 59 = .ok (.getfield 51, 3) := by decide +kernel
theorem dX9_tries_62 : decode cX9_tries 62 = .ok (.iload_n 1, 1) := by decide +kernel
theorem dX9_tries_63 : decode cX9_tries 63 = .ok (.iload 4, 2) := by decide +kernel
theorem dX9_tries_65 : decode cX9_tries 65 = .ok (.iastore, 1) := by decide +kernel
theorem dX9_tries_66 : decode cX9_tries 66 = .ok (.aload_n 0, 1) := by decide +kernel
theorem dX9_tries_67 : decode cX9_tries 67 = .ok (.getfield 54, 3) := by decide +kernel
theorem dX9_tries_70 : decode cX9_tries 70 = .ok (.iload_n 1, 1) := by decide +kernel
theorem dX9_tries_71 : decode cX9_tries 71 = .ok (.iload 5, 2) := by decide +kernel
theorem dX9_tries_73 : decode cX9_tries 73 = .ok (.iastore, 1) := by decide +kernel
theorem dX9_tries_74 : decode cX9_tries 74 = .ok (.return_, 1) := by decide +kernel
theorem dX9_laysLeast_0 : decode cX9_laysLeast 0 = .ok (.aload_n 0, 1) := by decide +kernel
theorem dX9_laysLeast_1 : decode cX9_laysLeast 1 = .ok (.getfield 51, 3) := by decide +kernel
theorem dX9_laysLeast_4 : decode cX9_laysLeast 4 = .ok (.bipush 16, 2) := by decide +kernel
theorem dX9_laysLeast_6 : decode cX9_laysLeast 6 = .ok (.iconst 0, 1) := by decide +kernel
theorem dX9_laysLeast_7 : decode cX9_laysLeast 7 = .ok (.iastore, 1) := by decide +kernel
theorem dX9_laysLeast_8 : decode cX9_laysLeast 8 = .ok (.aload_n 0, 1) := by decide +kernel
theorem dX9_laysLeast_9 : decode cX9_laysLeast 9 = .ok (.getfield 54, 3) := by decide +kernel
theorem dX9_laysLeast_12 : decode cX9_laysLeast 12 = .ok (.bipush 16, 2) := by decide +kernel
theorem dX9_laysLeast_14 : decode cX9_laysLeast 14 = .ok (.iconst 0, 1) := by decide +kernel
theorem dX9_laysLeast_15 : decode cX9_laysLeast 15 = .ok (.iastore, 1) := by decide +kernel
theorem dX9_laysLeast_16 : decode cX9_laysLeast 16 = .ok (.bipush 15, 2) := by decide +kernel
theorem dX9_laysLeast_18 : decode cX9_laysLeast 18 = .ok (.istore_n 1, 1) := by decide +kernel
theorem dX9_laysLeast_19 : decode cX9_laysLeast 19 = .ok (.iload_n 1, 1) := by decide +kernel
theorem dX9_laysLeast_20 : decode cX9_laysLeast 20 = .ok (.ifCond .lt 121, 3) := by decide +kernel
theorem dX9_laysLeast_23 : decode cX9_laysLeast 23 = .ok (.aload_n 0, 1) := by decide +kernel
theorem dX9_laysLeast_24 : decode cX9_laysLeast 24 = .ok (.getfield 51, 3) := by decide +kernel
theorem dX9_laysLeast_27 : decode cX9_laysLeast 27 = .ok (.iload_n 1, 1) := by decide +kernel
theorem dX9_laysLeast_28 : decode cX9_laysLeast 28 = .ok (.sipush 1000, 3) := by decide +kernel
theorem dX9_laysLeast_31 : decode cX9_laysLeast 31 = .ok (.iastore, 1) := by decide +kernel
theorem dX9_laysLeast_32 : decode cX9_laysLeast 32 = .ok (.aload_n 0, 1) := by decide +kernel
theorem dX9_laysLeast_33 : decode cX9_laysLeast 33 = .ok (.getfield 54, 3) := by decide +kernel
theorem dX9_laysLeast_36 : decode cX9_laysLeast 36 = .ok (.iload_n 1, 1) := by decide +kernel
theorem dX9_laysLeast_37 : decode cX9_laysLeast 37 = .ok (.sipush 1000, 3) := by decide +kernel
theorem dX9_laysLeast_40 : decode cX9_laysLeast 40 = .ok (.iastore, 1) := by decide +kernel
theorem dX9_laysLeast_41 : decode cX9_laysLeast 41 = .ok (.aload_n 0, 1) := by decide +kernel
theorem dX9_laysLeast_42 : decode cX9_laysLeast 42 = .ok (.iload_n 1, 1) := by decide +kernel
theorem dX9_laysLeast_43 : decode cX9_laysLeast 43 = .ok (.invokevirtual 242, 3) := by decide +kernel
theorem dX9_laysLeast_46 : decode cX9_laysLeast 46 = .ok (.istore_n 2, 1) := by decide +kernel
theorem dX9_laysLeast_47 : decode cX9_laysLeast 47 = .ok (.iload_n 2, 1) := by decide +kernel
theorem dX9_laysLeast_48 : decode cX9_laysLeast 48 = .ok (.iconst 1, 1) := by decide +kernel
theorem dX9_laysLeast_49 : decode cX9_laysLeast 49 = .ok (.if_icmp .le 16, 3) := by decide +kernel
theorem dX9_laysLeast_52 : decode cX9_laysLeast 52 = .ok (.aload_n 0, 1) := by decide +kernel
theorem dX9_laysLeast_53 : decode cX9_laysLeast 53 = .ok (.iload_n 1, 1) := by decide +kernel
theorem dX9_laysLeast_54 : decode cX9_laysLeast 54 = .ok (.iload_n 2, 1) := by decide +kernel
theorem dX9_laysLeast_55 : decode cX9_laysLeast 55 = .ok (.iconst 2, 1) := by decide +kernel
theorem dX9_laysLeast_56 : decode cX9_laysLeast 56 = .ok (.invokevirtual 245, 3) := by decide +kernel
theorem dX9_laysLeast_59 : decode cX9_laysLeast 59 = .ok (.iinc 2 (-1), 3) := by decide +kernel
theorem dX9_laysLeast_62 : decode cX9_laysLeast 62 = .ok (.goto (-15), 3) := by decide +kernel
theorem dX9_laysLeast_65 : decode cX9_laysLeast 65 = .ok (.iconst 2, 1) := by decide +kernel
theorem dX9_laysLeast_66 : decode cX9_laysLeast 66 = .ok (.istore_n 2, 1) := by decide +kernel
theorem dX9_laysLeast_67 : decode cX9_laysLeast 67 = .ok (.iload_n 2, 1) := by decide +kernel
theorem dX9_laysLeast_68 : decode cX9_laysLeast 68 = .ok (.bipush 15, 2) := by decide +kernel
theorem dX9_laysLeast_70 : decode cX9_laysLeast 70 = .ok (.if_icmp .gt 34, 3) := by decide +kernel
theorem dX9_laysLeast_73 : decode cX9_laysLeast 73 = .ok (.aload_n 0, 1) := by decide +kernel
theorem dX9_laysLeast_74 : decode cX9_laysLeast 74 = .ok (.iload_n 1, 1) := by decide +kernel
theorem dX9_laysLeast_75 : decode cX9_laysLeast 75 = .ok (.iload_n 2, 1) := by decide +kernel
theorem dX9_laysLeast_76 : decode cX9_laysLeast 76 = .ok (.invokevirtual 249, 3) := by decide +kernel
theorem dX9_laysLeast_79 : decode cX9_laysLeast 79 = .ok (.istore_n 3, 1) := by decide +kernel
theorem dX9_laysLeast_80 : decode cX9_laysLeast 80 = .ok (.iload_n 3, 1) := by decide +kernel
theorem dX9_laysLeast_81 : decode cX9_laysLeast 81 = .ok (.iconst 1, 1) := by decide +kernel
theorem dX9_laysLeast_82 : decode cX9_laysLeast 82 = .ok (.if_icmp .le 16, 3) := by decide +kernel
theorem dX9_laysLeast_85 : decode cX9_laysLeast 85 = .ok (.aload_n 0, 1) := by decide +kernel
theorem dX9_laysLeast_86 : decode cX9_laysLeast 86 = .ok (.iload_n 1, 1) := by decide +kernel
theorem dX9_laysLeast_87 : decode cX9_laysLeast 87 = .ok (.iload_n 3, 1) := by decide +kernel
theorem dX9_laysLeast_88 : decode cX9_laysLeast 88 = .ok (.iconst 3, 1) := by decide +kernel
theorem dX9_laysLeast_89 : decode cX9_laysLeast 89 = .ok (.invokevirtual 245, 3) := by decide +kernel
theorem dX9_laysLeast_92 : decode cX9_laysLeast 92 = .ok (.iinc 3 (-1), 3) := by decide +kernel
theorem dX9_laysLeast_95 : decode cX9_laysLeast 95 = .ok (.goto (-15), 3) := by decide +kernel
theorem dX9_laysLeast_98 : decode cX9_laysLeast 98 = .ok (.iinc 2 1, 3) := by decide +kernel
theorem dX9_laysLeast_101 : decode cX9_laysLeast 101 = .ok (.goto (-34), 3) := by decide +kernel
theorem dX9_laysLeast_104 : decode cX9_laysLeast 104 = .ok (.iconst 1, 1) := by decide +kernel
theorem dX9_laysLeast_105 : decode cX9_laysLeast 105 = .ok (.istore_n 2, 1) := by decide +kernel
theorem dX9_laysLeast_106 : decode cX9_laysLeast 106 = .ok (.iload_n 2, 1) := by decide +kernel
theorem dX9_laysLeast_107 : decode cX9_laysLeast 107 = .ok (.bipush 8, 2) := by decide +kernel
theorem dX9_laysLeast_109 : decode cX9_laysLeast 109 = .ok (.if_icmp .gt 26, 3) := by decide +kernel
theorem dX9_laysLeast_112 : decode cX9_laysLeast 112 = .ok (.iload_n 1, 1) := by decide +kernel
theorem dX9_laysLeast_113 : decode cX9_laysLeast 113 = .ok (.iload_n 2, 1) := by decide +kernel
theorem dX9_laysLeast_114 : decode cX9_laysLeast 114 = .ok (.iadd, 1) := by decide +kernel
theorem dX9_laysLeast_115 : decode cX9_laysLeast 115 = .ok (.bipush 16, 2) := by decide +kernel
theorem dX9_laysLeast_117 : decode cX9_laysLeast 117 = .ok (.if_icmp .gt 18, 3) := by decide +kernel
theorem dX9_laysLeast_120 : decode cX9_laysLeast 120 = .ok (.aload_n 0, 1) := by decide +kernel
theorem dX9_laysLeast_121 : decode cX9_laysLeast 121 = .ok (.iload_n 1, 1) := by decide +kernel
theorem dX9_laysLeast_122 : decode cX9_laysLeast 122 = .ok (.iload_n 2, 1) := by decide +kernel
theorem dX9_laysLeast_123 : decode cX9_laysLeast 123 = .ok (.iconst 1, 1) := by decide +kernel
theorem dX9_laysLeast_124 : decode cX9_laysLeast 124 = .ok (.iload_n 2, 1) := by decide +kernel
theorem dX9_laysLeast_125 : decode cX9_laysLeast 125 = .ok (.iadd, 1) := by decide +kernel
theorem dX9_laysLeast_126 : decode cX9_laysLeast 126 = .ok (.invokevirtual 245, 3) := by decide +kernel
theorem dX9_laysLeast_129 : decode cX9_laysLeast 129 = .ok (.iinc 2 1, 3) := by decide +kernel
theorem dX9_laysLeast_132 : decode cX9_laysLeast 132 = .ok (.goto (-26), 3) := by decide +kernel
theorem dX9_laysLeast_135 : decode cX9_laysLeast 135 = .ok (.iinc 1 (-1), 3) := by decide +kernel
theorem dX9_laysLeast_138 : decode cX9_laysLeast 138 = .ok (.goto (-119), 3) := by decide +kernel
theorem dX9_laysLeast_141 : decode cX9_laysLeast 141 = .ok (.return_, 1) := by decide +kernel
theorem dX9_isCheapest_0 : decode cX9_isCheapest 0 = .ok (.iload_n 3, 1) := by decide +kernel
theorem dX9_isCheapest_1 : decode cX9_isCheapest 1 = .ok (.aload_n 0, 1) := by decide +kernel
theorem dX9_isCheapest_2 : decode cX9_isCheapest 2 = .ok (.getfield 51, 3) := by decide +kernel
theorem dX9_isCheapest_5 : decode cX9_isCheapest 5 = .ok (.iload_n 1, 1) := by decide +kernel
theorem dX9_isCheapest_6 : decode cX9_isCheapest 6 = .ok (.iload_n 2, 1) := by decide +kernel
theorem dX9_isCheapest_7 : decode cX9_isCheapest 7 = .ok (.iadd, 1) := by decide +kernel
theorem dX9_isCheapest_8 : decode cX9_isCheapest 8 = .ok (.iaload, 1) := by decide +kernel
theorem dX9_isCheapest_9 : decode cX9_isCheapest 9 = .ok (.iadd, 1) := by decide +kernel
theorem dX9_isCheapest_10 : decode cX9_isCheapest 10 = .ok (.aload_n 0, 1) := by decide +kernel
theorem dX9_isCheapest_11 : decode cX9_isCheapest 11 = .ok (.getfield 51, 3) := by decide +kernel
theorem dX9_isCheapest_14 : decode cX9_isCheapest 14 = .ok (.iload_n 1, 1) := by decide +kernel
theorem dX9_isCheapest_15 : decode cX9_isCheapest 15 = .ok (.iaload, 1) := by decide +kernel
theorem dX9_isCheapest_16 : decode cX9_isCheapest 16 = .ok (.if_icmp .ne 7, 3) := by decide +kernel
theorem dX9_isCheapest_19 : decode cX9_isCheapest 19 = .ok (.iconst 1, 1) := by decide +kernel
theorem dX9_isCheapest_20 : decode cX9_isCheapest 20 = .ok (.goto 4, 3) := by decide +kernel
theorem dX9_isCheapest_23 : decode cX9_isCheapest 23 = .ok (.iconst 0, 1) := by decide +kernel
theorem dX9_isCheapest_24 : decode cX9_isCheapest 24 = .ok (.ireturn, 1) := by decide +kernel
theorem dX9_cutHere_0 : decode cX9_cutHere 0 = .ok (.aload_n 0, 1) := by decide +kernel
theorem dX9_cutHere_1 : decode cX9_cutHere 1 = .ok (.getfield 57, 3) := by decide +kernel
theorem dX9_cutHere_4 : decode cX9_cutHere 4 = .ok (.aload_n 0, 1) := by decide +kernel
theorem dX9_cutHere_5 : decode cX9_cutHere 5 = .ok (.getfield 252, 3) := by decide +kernel
theorem dX9_cutHere_8 : decode cX9_cutHere 8 = .ok (.iload_n 1, 1) := by decide +kernel
theorem dX9_cutHere_9 : decode cX9_cutHere 9 = .ok (.iastore, 1) := by decide +kernel
theorem dX9_cutHere_10 : decode cX9_cutHere 10 = .ok (.aload_n 0, 1) := by decide +kernel
theorem dX9_cutHere_11 : decode cX9_cutHere 11 = .ok (.getfield 60, 3) := by decide +kernel
theorem dX9_cutHere_14 : decode cX9_cutHere 14 = .ok (.aload_n 0, 1) := by decide +kernel
theorem dX9_cutHere_15 : decode cX9_cutHere 15 = .ok (.getfield 252, 3) := by decide +kernel
theorem dX9_cutHere_18 : decode cX9_cutHere 18 = .ok (.iload_n 2, 1) := by decide +kernel
theorem dX9_cutHere_19 : decode cX9_cutHere 19 = .ok (.iastore, 1) := by decide +kernel
theorem dX9_cutHere_20 : decode cX9_cutHere 20 = .ok (.aload_n 0, 1) := by decide +kernel
theorem dX9_cutHere_21 : decode cX9_cutHere 21 = .ok (.getfield 63, 3) := by decide +kernel
theorem dX9_cutHere_24 : decode cX9_cutHere 24 = .ok (.aload_n 0, 1) := by decide +kernel
theorem dX9_cutHere_25 : decode cX9_cutHere 25 = .ok (.getfield 252, 3) := by decide +kernel
theorem dX9_cutHere_28 : decode cX9_cutHere 28 = .ok (.iload_n 3, 1) := by decide +kernel
theorem dX9_cutHere_29 : decode cX9_cutHere 29 = .ok (.iastore, 1) := by decide +kernel
theorem dX9_cutHere_30 : decode cX9_cutHere 30 = .ok (.aload_n 0, 1) := by decide +kernel
theorem dX9_cutHere_31 : decode cX9_cutHere 31 = .ok (.getfield 66, 3) := by decide +kernel
theorem dX9_cutHere_34 : decode cX9_cutHere 34 = .ok (.aload_n 0, 1) := by decide +kernel
theorem dX9_cutHere_35 : decode cX9_cutHere 35 = .ok (.getfield 252, 3) := by decide +kernel
theorem dX9_cutHere_38 : decode cX9_cutHere 38 = .ok (.iload 4, 2) := by decide +kernel
theorem dX9_cutHere_40 : decode cX9_cutHere 40 = .ok (.iastore, 1) := by decide +kernel
theorem dX9_cutHere_41 : decode cX9_cutHere 41 = .ok (.aload_n 0, 1) := by decide +kernel
theorem dX9_cutHere_42 : decode cX9_cutHere 42 = .ok (.dup, 1) := by decide +kernel
theorem dX9_cutHere_43 : decode cX9_cutHere 43 = .ok (.getfield 252, 3) := by decide +kernel
theorem dX9_cutHere_46 : decode cX9_cutHere 46 = .ok (.iconst 1, 1) := by decide +kernel
theorem dX9_cutHere_47 : decode cX9_cutHere 47 = .ok (.iadd, 1) := by decide +kernel
theorem dX9_cutHere_48 : decode cX9_cutHere 48 = .ok (.putfield 252, 3) := by decide +kernel
theorem dX9_cutHere_51 : decode cX9_cutHere 51 = .ok (.return_, 1) := by decide +kernel
theorem dX9_cutsOne_0 : decode cX9_cutsOne 0 = .ok (.aload_n 0, 1) := by decide +kernel
theorem dX9_cutsOne_1 : decode cX9_cutsOne 1 = .ok (.iload_n 1, 1) := by decide +kernel
theorem dX9_cutsOne_2 : decode cX9_cutsOne 2 = .ok (.invokevirtual 242, 3) := by decide +kernel
theorem dX9_cutsOne_5 : decode cX9_cutsOne 5 = .ok (.istore_n 2, 1) := by decide +kernel
theorem dX9_cutsOne_6 : decode cX9_cutsOne 6 = .ok (.iload_n 2, 1) := by decide +kernel
theorem dX9_cutsOne_7 : decode cX9_cutsOne 7 = .ok (.iconst 1, 1) := by decide +kernel
theorem dX9_cutsOne_8 : decode cX9_cutsOne 8 = .ok (.if_icmp .le 32, 3) := by decide +kernel
theorem dX9_cutsOne_11 : decode cX9_cutsOne 11 = .ok (.aload_n 0, 1) := by decide +kernel
theorem dX9_cutsOne_12 : decode cX9_cutsOne 12 = .ok (.iload_n 1, 1) := by decide +kernel
theorem dX9_cutsOne_13 : decode cX9_cutsOne 13 = .ok (.iload_n 2, 1) := by decide +kernel
theorem dX9_cutsOne_14 : decode cX9_cutsOne 14 = .ok (.iconst 2, 1) := by decide +kernel
theorem dX9_cutsOne_15 : decode cX9_cutsOne 15 = .ok (.invokevirtual 255, 3) := by decide +kernel
theorem dX9_cutsOne_18 : decode cX9_cutsOne 18 = .ok (.ifCond .ne 6, 3) := by decide +kernel
theorem dX9_cutsOne_21 : decode cX9_cutsOne 21 = .ok (.goto 13, 3) := by decide +kernel
theorem dX9_cutsOne_24 : decode cX9_cutsOne 24 = .ok (.aload_n 0, 1) := by decide +kernel
theorem dX9_cutsOne_25 : decode cX9_cutsOne 25 = .ok (.iconst 0, 1) := by decide +kernel
theorem dX9_cutsOne_26 : decode cX9_cutsOne 26 = .ok (.iload_n 1, 1) := by decide +kernel
theorem dX9_cutsOne_27 : decode cX9_cutsOne 27 = .ok (.iload_n 2, 1) := by decide +kernel
theorem dX9_cutsOne_28 : decode cX9_cutsOne 28 = .ok (.iconst 0, 1) := by decide +kernel
theorem dX9_cutsOne_29 : decode cX9_cutsOne 29 = .ok (.invokevirtual 258, 3) := by decide +kernel
theorem dX9_cutsOne_32 : decode cX9_cutsOne 32 = .ok (.iload_n 2, 1) := by decide +kernel
theorem dX9_cutsOne_33 : decode cX9_cutsOne 33 = .ok (.ireturn, 1) := by decide +kernel
theorem dX9_cutsOne_34 : decode cX9_cutsOne 34 = .ok (.iinc 2 (-1), 3) := by decide +kernel
theorem dX9_cutsOne_37 : decode cX9_cutsOne 37 = .ok (.goto (-31), 3) := by decide +kernel
theorem dX9_cutsOne_40 : decode cX9_cutsOne 40 = .ok (.bipush 8, 2) := by decide +kernel
theorem dX9_cutsOne_42 : decode cX9_cutsOne 42 = .ok (.istore_n 2, 1) := by decide +kernel
theorem dX9_cutsOne_43 : decode cX9_cutsOne 43 = .ok (.iload_n 2, 1) := by decide +kernel
theorem dX9_cutsOne_44 : decode cX9_cutsOne 44 = .ok (.iconst 1, 1) := by decide +kernel
theorem dX9_cutsOne_45 : decode cX9_cutsOne 45 = .ok (.if_icmp .le 56, 3) := by decide +kernel
theorem dX9_cutsOne_48 : decode cX9_cutsOne 48 = .ok (.iconst 2, 1) := by decide +kernel
theorem dX9_cutsOne_49 : decode cX9_cutsOne 49 = .ok (.istore_n 3, 1) := by decide +kernel
theorem dX9_cutsOne_50 : decode cX9_cutsOne 50 = .ok (.iload_n 3, 1) := by decide +kernel
theorem dX9_cutsOne_51 : decode cX9_cutsOne 51 = .ok (.bipush 15, 2) := by decide +kernel
theorem dX9_cutsOne_53 : decode cX9_cutsOne 53 = .ok (.if_icmp .gt 42, 3) := by decide +kernel
theorem dX9_cutsOne_56 : decode cX9_cutsOne 56 = .ok (.aload_n 0, 1) := by decide +kernel
theorem dX9_cutsOne_57 : decode cX9_cutsOne 57 = .ok (.iload_n 1, 1) := by decide +kernel
theorem dX9_cutsOne_58 : decode cX9_cutsOne 58 = .ok (.iload_n 3, 1) := by decide +kernel
theorem dX9_cutsOne_59 : decode cX9_cutsOne 59 = .ok (.invokevirtual 249, 3) := by decide +kernel
theorem dX9_cutsOne_62 : decode cX9_cutsOne 62 = .ok (.iload_n 2, 1) := by decide +kernel
theorem dX9_cutsOne_63 : decode cX9_cutsOne 63 = .ok (.if_icmp .lt 26, 3) := by decide +kernel
theorem dX9_cutsOne_66 : decode cX9_cutsOne 66 = .ok (.aload_n 0, 1) := by decide +kernel
theorem dX9_cutsOne_67 : decode cX9_cutsOne 67 = .ok (.iload_n 1, 1) := by decide +kernel
theorem dX9_cutsOne_68 : decode cX9_cutsOne 68 = .ok (.iload_n 2, 1) := by decide +kernel
theorem dX9_cutsOne_69 : decode cX9_cutsOne 69 = .ok (.iconst 3, 1) := by decide +kernel
theorem dX9_cutsOne_70 : decode cX9_cutsOne 70 = .ok (.invokevirtual 255, 3) := by decide +kernel
theorem dX9_cutsOne_73 : decode cX9_cutsOne 73 = .ok (.ifCond .ne 6, 3) := by decide +kernel
theorem dX9_cutsOne_76 : decode cX9_cutsOne 76 = .ok (.goto 13, 3) := by decide +kernel
theorem dX9_cutsOne_79 : decode cX9_cutsOne 79 = .ok (.aload_n 0, 1) := by decide +kernel
theorem dX9_cutsOne_80 : decode cX9_cutsOne 80 = .ok (.iconst 1, 1) := by decide +kernel
theorem dX9_cutsOne_81 : decode cX9_cutsOne 81 = .ok (.iload_n 1, 1) := by decide +kernel
theorem dX9_cutsOne_82 : decode cX9_cutsOne 82 = .ok (.iload_n 2, 1) := by decide +kernel
theorem dX9_cutsOne_83 : decode cX9_cutsOne 83 = .ok (.iload_n 3, 1) := by decide +kernel
theorem dX9_cutsOne_84 : decode cX9_cutsOne 84 = .ok (.invokevirtual 258, 3) := by decide +kernel
theorem dX9_cutsOne_87 : decode cX9_cutsOne 87 = .ok (.iload_n 2, 1) := by decide +kernel
theorem dX9_cutsOne_88 : decode cX9_cutsOne 88 = .ok (.ireturn, 1) := by decide +kernel
theorem dX9_cutsOne_89 : decode cX9_cutsOne 89 = .ok (.iinc 3 1, 3) := by decide +kernel
theorem dX9_cutsOne_92 : decode cX9_cutsOne 92 = .ok (.goto (-42), 3) := by decide +kernel
theorem dX9_cutsOne_95 : decode cX9_cutsOne 95 = .ok (.iinc 2 (-1), 3) := by decide +kernel
theorem dX9_cutsOne_98 : decode cX9_cutsOne 98 = .ok (.goto (-55), 3) := by decide +kernel
theorem dX9_cutsOne_101 : decode cX9_cutsOne 101 = .ok (.bipush 16, 2) := by decide +kernel
theorem dX9_cutsOne_103 : decode cX9_cutsOne 103 = .ok (.iload_n 1, 1) := by decide +kernel
theorem dX9_cutsOne_104 : decode cX9_cutsOne 104 = .ok (.isub, 1) := by decide +kernel
theorem dX9_cutsOne_105 : decode cX9_cutsOne 105 = .ok (.bipush 8, 2) := by decide +kernel
theorem dX9_cutsOne_107 : decode cX9_cutsOne 107 = .ok (.if_icmp .ge 10, 3) := by decide +kernel
theorem dX9_cutsOne_110 : decode cX9_cutsOne 110 = .ok (.bipush 16, 2) := by decide +kernel
theorem dX9_cutsOne_112 : decode cX9_cutsOne 112 = .ok (.iload_n 1, 1) := by decide +kernel
theorem dX9_cutsOne_113 : decode cX9_cutsOne 113 = .ok (.isub, 1) := by decide +kernel
theorem dX9_cutsOne_114 : decode cX9_cutsOne 114 = .ok (.goto 5, 3) := by decide +kernel
theorem dX9_cutsOne_117 : decode cX9_cutsOne 117 = .ok (.bipush 8, 2) := by decide +kernel
theorem dX9_cutsOne_119 : decode cX9_cutsOne 119 = .ok (.istore_n 2, 1) := by decide +kernel
theorem dX9_cutsOne_120 : decode cX9_cutsOne 120 = .ok (.aload_n 0, 1) := by decide +kernel
theorem dX9_cutsOne_121 : decode cX9_cutsOne 121 = .ok (.iload_n 1, 1) := by decide +kernel
theorem dX9_cutsOne_122 : decode cX9_cutsOne 122 = .ok (.iload_n 2, 1) := by decide +kernel
theorem dX9_cutsOne_123 : decode cX9_cutsOne 123 = .ok (.iconst 1, 1) := by decide +kernel
theorem dX9_cutsOne_124 : decode cX9_cutsOne 124 = .ok (.iload_n 2, 1) := by decide +kernel
theorem dX9_cutsOne_125 : decode cX9_cutsOne 125 = .ok (.iadd, 1) := by decide +kernel
theorem dX9_cutsOne_126 : decode cX9_cutsOne 126 = .ok (.invokevirtual 255, 3) := by decide +kernel
theorem dX9_cutsOne_129 : decode cX9_cutsOne 129 = .ok (.ifCond .ne 9, 3) := by decide +kernel
theorem dX9_cutsOne_132 : decode cX9_cutsOne 132 = .ok (.iinc 2 (-1), 3) := by decide +kernel
theorem dX9_cutsOne_135 : decode cX9_cutsOne 135 = .ok (.goto (-15), 3) := by decide +kernel
theorem dX9_cutsOne_138 : decode cX9_cutsOne 138 = .ok (.aload_n 0, 1) := by decide +kernel
theorem dX9_cutsOne_139 : decode cX9_cutsOne 139 = .ok (.iconst 2, 1) := by decide +kernel
theorem dX9_cutsOne_140 : decode cX9_cutsOne 140 = .ok (.iload_n 1, 1) := by decide +kernel
theorem dX9_cutsOne_141 : decode cX9_cutsOne 141 = .ok (.iload_n 2, 1) := by decide +kernel
theorem dX9_cutsOne_142 : decode cX9_cutsOne 142 = .ok (.iconst 0, 1) := by decide +kernel
theorem dX9_cutsOne_143 : decode cX9_cutsOne 143 = .ok (.invokevirtual 258, 3) := by decide +kernel
theorem dX9_cutsOne_146 : decode cX9_cutsOne 146 = .ok (.iload_n 2, 1) := by decide +kernel
theorem dX9_cutsOne_147 : decode cX9_cutsOne 147 = .ok (.ireturn, 1) := by decide +kernel
theorem dX9_cutAll_0 : decode cX9_cutAll 0 = .ok (.aload_n 0, 1) := by decide +kernel
theorem dX9_cutAll_1 : decode cX9_cutAll 1 = .ok (.iload_n 1, 1) := by decide +kernel
theorem dX9_cutAll_2 : decode cX9_cutAll 2 = .ok (.invokevirtual 262, 3) := by decide +kernel
theorem dX9_cutAll_5 : decode cX9_cutAll 5 = .ok (.aload_n 0, 1) := by decide +kernel
theorem dX9_cutAll_6 : decode cX9_cutAll 6 = .ok (.invokevirtual 265, 3) := by decide +kernel
theorem dX9_cutAll_9 : decode cX9_cutAll 9 = .ok (.aload_n 0, 1) := by decide +kernel
theorem dX9_cutAll_10 : decode cX9_cutAll 10 = .ok (.iconst 0, 1) := by decide +kernel
theorem dX9_cutAll_11 : decode cX9_cutAll 11 = .ok (.putfield 252, 3) := by decide +kernel
theorem dX9_cutAll_14 : decode cX9_cutAll 14 = .ok (.iconst 0, 1) := by decide +kernel
theorem dX9_cutAll_15 : decode cX9_cutAll 15 = .ok (.istore_n 2, 1) := by decide +kernel
theorem dX9_cutAll_16 : decode cX9_cutAll 16 = .ok (.iload_n 2, 1) := by decide +kernel
theorem dX9_cutAll_17 : decode cX9_cutAll 17 = .ok (.bipush 16, 2) := by decide +kernel
theorem dX9_cutAll_19 : decode cX9_cutAll 19 = .ok (.if_icmp .ge 14, 3) := by decide +kernel
theorem dX9_cutAll_22 : decode cX9_cutAll 22 = .ok (.iload_n 2, 1) := by decide +kernel
theorem dX9_cutAll_23 : decode cX9_cutAll 23 = .ok (.aload_n 0, 1) := by decide +kernel
theorem dX9_cutAll_24 : decode cX9_cutAll 24 = .ok (.iload_n 2, 1) := by decide +kernel
theorem dX9_cutAll_25 : decode cX9_cutAll 25 = .ok (.invokevirtual 268, 3) := by decide +kernel
theorem dX9_cutAll_28 : decode cX9_cutAll 28 = .ok (.iadd, 1) := by decide +kernel
theorem dX9_cutAll_29 : decode cX9_cutAll 29 = .ok (.istore_n 2, 1) := by decide +kernel
theorem dX9_cutAll_30 : decode cX9_cutAll 30 = .ok (.goto (-14), 3) := by decide +kernel
theorem dX9_cutAll_33 : decode cX9_cutAll 33 = .ok (.aload_n 0, 1) := by decide +kernel
theorem dX9_cutAll_34 : decode cX9_cutAll 34 = .ok (.getfield 51, 3) := by decide +kernel
theorem dX9_cutAll_37 : decode cX9_cutAll 37 = .ok (.iconst 0, 1) := by decide +kernel
theorem dX9_cutAll_38 : decode cX9_cutAll 38 = .ok (.iaload, 1) := by decide +kernel
theorem dX9_cutAll_39 : decode cX9_cutAll 39 = .ok (.ireturn, 1) := by decide +kernel
theorem dX9_areAlike_0 : decode cX9_areAlike 0 = .ok (.aload_n 0, 1) := by decide +kernel
theorem dX9_areAlike_1 : decode cX9_areAlike 1 = .ok (.iload_n 1, 1) := by decide +kernel
theorem dX9_areAlike_2 : decode cX9_areAlike 2 = .ok (.invokevirtual 262, 3) := by decide +kernel
theorem dX9_areAlike_5 : decode cX9_areAlike 5 = .ok (.aload_n 0, 1) := by decide +kernel
theorem dX9_areAlike_6 : decode cX9_areAlike 6 = .ok (.iconst 0, 1) := by decide +kernel
theorem dX9_areAlike_7 : decode cX9_areAlike 7 = .ok (.invokevirtual 242, 3) := by decide +kernel
theorem dX9_areAlike_10 : decode cX9_areAlike 10 = .ok (.bipush 16, 2) := by decide +kernel
theorem dX9_areAlike_12 : decode cX9_areAlike 12 = .ok (.if_icmp .ne 7, 3) := by decide +kernel
theorem dX9_areAlike_15 : decode cX9_areAlike 15 = .ok (.iconst 1, 1) := by decide +kernel
theorem dX9_areAlike_16 : decode cX9_areAlike 16 = .ok (.goto 4, 3) := by decide +kernel
theorem dX9_areAlike_19 : decode cX9_areAlike 19 = .ok (.iconst 0, 1) := by decide +kernel
theorem dX9_areAlike_20 : decode cX9_areAlike 20 = .ok (.ireturn, 1) := by decide +kernel
theorem dX9_dataAt_0 : decode cX9_dataAt 0 = .ok (.iconst 5, 1) := by decide +kernel
theorem dX9_dataAt_1 : decode cX9_dataAt 1 = .ok (.bipush 16, 2) := by decide +kernel
theorem dX9_dataAt_3 : decode cX9_dataAt 3 = .ok (.iload_n 0, 1) := by decide +kernel
theorem dX9_dataAt_4 : decode cX9_dataAt 4 = .ok (.imul, 1) := by decide +kernel
theorem dX9_dataAt_5 : decode cX9_dataAt 5 = .ok (.iadd, 1) := by decide +kernel
theorem dX9_dataAt_6 : decode cX9_dataAt 6 = .ok (.ireturn, 1) := by decide +kernel
theorem dX9_cell_0 : decode cX9_cell 0 = .ok (.aload_n 0, 1) := by decide +kernel
theorem dX9_cell_1 : decode cX9_cell 1 = .ok (.iconst 0, 1) := by decide +kernel
theorem dX9_cell_2 : decode cX9_cell 2 = .ok (.putfield 75, 3) := by decide +kernel
theorem dX9_cell_5 : decode cX9_cell 5 = .ok (.aload_n 0, 1) := by decide +kernel
theorem dX9_cell_6 : decode cX9_cell 6 = .ok (.iload_n 1, 1) := by decide +kernel
theorem dX9_cell_7 : decode cX9_cell 7 = .ok (.invokevirtual 271, 3) := by decide +kernel
theorem dX9_cell_10 : decode cX9_cell 10 = .ok (.ifCond .eq 13, 3) := by decide +kernel
theorem dX9_cell_13 : decode cX9_cell 13 = .ok (.iload_n 2, 1) := by decide +kernel
theorem dX9_cell_14 : decode cX9_cell 14 = .ok (.iconst 0, 1) := by decide +kernel
theorem dX9_cell_15 : decode cX9_cell 15 = .ok (.bipush 15, 2) := by decide +kernel
theorem dX9_cell_17 : decode cX9_cell 17 = .ok (.invokestatic 100, 3) := by decide +kernel
theorem dX9_cell_20 : decode cX9_cell 20 = .ok (.ifCond .ne 9, 3) := by decide +kernel
theorem dX9_cell_23 : decode cX9_cell 23 = .ok (.aload_n 0, 1) := by decide +kernel
theorem dX9_cell_24 : decode cX9_cell 24 = .ok (.iconst 1, 1) := by decide +kernel
theorem dX9_cell_25 : decode cX9_cell 25 = .ok (.invokevirtual 210, 3) := by decide +kernel
theorem dX9_cell_28 : decode cX9_cell 28 = .ok (.ireturn, 1) := by decide +kernel
theorem dX9_cell_29 : decode cX9_cell 29 = .ok (.aload_n 0, 1) := by decide +kernel
theorem dX9_cell_30 : decode cX9_cell 30 = .ok (.aload_n 0, 1) := by decide +kernel
theorem dX9_cell_31 : decode cX9_cell 31 = .ok (.getfield 35, 3) := by decide +kernel
theorem dX9_cell_34 : decode cX9_cell 34 = .ok (.iload_n 1, 1) := by decide +kernel
theorem dX9_cell_35 : decode cX9_cell 35 = .ok (.invokestatic 274, 3) := by decide +kernel
theorem dX9_cell_38 : decode cX9_cell 38 = .ok (.iload_n 2, 1) := by decide +kernel
theorem dX9_cell_39 : decode cX9_cell 39 = .ok (.iadd, 1) := by decide +kernel
theorem dX9_cell_40 : decode cX9_cell 40 = .ok (.iaload, 1) := by decide +kernel
theorem dX9_cell_41 : decode cX9_cell 41 = .ok (.invokevirtual 222, 3) := by decide +kernel
theorem dX9_cell_44 : decode cX9_cell 44 = .ok (.ireturn, 1) := by decide +kernel
theorem dX9_squeezed_0 : decode cX9_squeezed 0 = .ok (.aload_n 0, 1) := by decide +kernel
theorem dX9_squeezed_1 : decode cX9_squeezed 1 = .ok (.iconst 0, 1) := by decide +kernel
theorem dX9_squeezed_2 : decode cX9_squeezed 2 = .ok (.putfield 75, 3) := by decide +kernel
theorem dX9_squeezed_5 : decode cX9_squeezed 5 = .ok (.aload_n 0, 1) := by decide +kernel
theorem dX9_squeezed_6 : decode cX9_squeezed 6 = .ok (.iload_n 1, 1) := by decide +kernel
theorem dX9_squeezed_7 : decode cX9_squeezed 7 = .ok (.invokevirtual 271, 3) := by decide +kernel
theorem dX9_squeezed_10 : decode cX9_squeezed 10 = .ok (.ifCond .eq 18, 3) := by decide +kernel
theorem dX9_squeezed_13 : decode cX9_squeezed 13 = .ok (.aload_n 0, 1) := by decide +kernel
theorem dX9_squeezed_14 : decode cX9_squeezed 14 = .ok (.aload_n 0, 1) := by decide +kernel
theorem dX9_squeezed_15 : decode cX9_squeezed 15 = .ok (.iload_n 1, 1) := by decide +kernel
theorem dX9_squeezed_16 : decode cX9_squeezed 16 = .ok (.invokestatic 274, 3) := by decide +kernel
theorem dX9_squeezed_19 : decode cX9_squeezed 19 = .ok (.invokevirtual 277, 3) := by decide +kernel
theorem dX9_squeezed_22 : decode cX9_squeezed 22 = .ok (.invokevirtual 222, 3) := by decide +kernel
theorem dX9_squeezed_25 : decode cX9_squeezed 25 = .ok (.goto 8, 3) := by decide +kernel
theorem dX9_squeezed_28 : decode cX9_squeezed 28 = .ok (.aload_n 0, 1) := by decide +kernel
theorem dX9_squeezed_29 : decode cX9_squeezed 29 = .ok (.iconst 1, 1) := by decide +kernel
theorem dX9_squeezed_30 : decode cX9_squeezed 30 = .ok (.invokevirtual 210, 3) := by decide +kernel
theorem dX9_squeezed_33 : decode cX9_squeezed 33 = .ok (.ireturn, 1) := by decide +kernel
theorem dX9_pieces_0 : decode cX9_pieces 0 = .ok (.aload_n 0, 1) := by decide +kernel
theorem dX9_pieces_1 : decode cX9_pieces 1 = .ok (.iconst 0, 1) := by decide +kernel
theorem dX9_pieces_2 : decode cX9_pieces 2 = .ok (.putfield 75, 3) := by decide +kernel
theorem dX9_pieces_5 : decode cX9_pieces 5 = .ok (.aload_n 0, 1) := by decide +kernel
theorem dX9_pieces_6 : decode cX9_pieces 6 = .ok (.iload_n 1, 1) := by decide +kernel
theorem dX9_pieces_7 : decode cX9_pieces 7 = .ok (.invokevirtual 271, 3) := by decide +kernel
theorem dX9_pieces_10 : decode cX9_pieces 10 = .ok (.ifCond .ne 9, 3) := by decide +kernel
theorem dX9_pieces_13 : decode cX9_pieces 13 = .ok (.aload_n 0, 1) := by decide +kernel
theorem dX9_pieces_14 : decode cX9_pieces 14 = .ok (.iconst 1, 1) := by decide +kernel
theorem dX9_pieces_15 : decode cX9_pieces 15 = .ok (.invokevirtual 210, 3) := by decide +kernel
theorem dX9_pieces_18 : decode cX9_pieces 18 = .ok (.ireturn, 1) := by decide +kernel
theorem dX9_pieces_19 : decode cX9_pieces 19 = .ok (.aload_n 0, 1) := by decide +kernel
theorem dX9_pieces_20 : decode cX9_pieces 20 = .ok (.iload_n 1, 1) := by decide +kernel
theorem dX9_pieces_21 : decode cX9_pieces 21 = .ok (.invokestatic 274, 3) := by decide +kernel
theorem dX9_pieces_24 : decode cX9_pieces 24 = .ok (.invokevirtual 277, 3) := by decide +kernel
theorem dX9_pieces_27 : decode cX9_pieces 27 = .ok (.pop, 1) := by decide +kernel
theorem dX9_pieces_28 : decode cX9_pieces 28 = .ok (.aload_n 0, 1) := by decide +kernel
theorem dX9_pieces_29 : decode cX9_pieces 29 = .ok (.aload_n 0, 1) := by decide +kernel
theorem dX9_pieces_30 : decode cX9_pieces 30 = .ok (.getfield 252, 3) := by decide +kernel
theorem dX9_pieces_33 : decode cX9_pieces 33 = .ok (.invokevirtual 222, 3) := by decide +kernel
theorem dX9_pieces_36 : decode cX9_pieces 36 = .ok (.ireturn, 1) := by decide +kernel
theorem dX9_piece_0 : decode cX9_piece 0 = .ok (.aload_n 0, 1) := by decide +kernel
theorem dX9_piece_1 : decode cX9_piece 1 = .ok (.iconst 0, 1) := by decide +kernel
theorem dX9_piece_2 : decode cX9_piece 2 = .ok (.putfield 75, 3) := by decide +kernel
theorem dX9_piece_5 : decode cX9_piece 5 = .ok (.aload_n 0, 1) := by decide +kernel
theorem dX9_piece_6 : decode cX9_piece 6 = .ok (.iload_n 1, 1) := by decide +kernel
theorem dX9_piece_7 : decode cX9_piece 7 = .ok (.invokevirtual 271, 3) := by decide +kernel
theorem dX9_piece_10 : decode cX9_piece 10 = .ok (.ifCond .eq 16, 3) := by decide +kernel
theorem dX9_piece_13 : decode cX9_piece 13 = .ok (.iload_n 2, 1) := by decide +kernel
theorem dX9_piece_14 : decode cX9_piece 14 = .ok (.ifCond .lt 12, 3) := by decide +kernel
theorem dX9_piece_17 : decode cX9_piece 17 = .ok (.iload_n 3, 1) := by decide +kernel
theorem dX9_piece_18 : decode cX9_piece 18 = .ok (.iconst 0, 1) := by decide +kernel
theorem dX9_piece_19 : decode cX9_piece 19 = .ok (.iconst 3, 1) := by decide +kernel
theorem dX9_piece_20 : decode cX9_piece 20 = .ok (.invokestatic 100, 3) := by decide +kernel
theorem dX9_piece_23 : decode cX9_piece 23 = .ok (.ifCond .ne 9, 3) := by decide +kernel
theorem dX9_piece_26 : decode cX9_piece 26 = .ok (.aload_n 0, 1) := by decide +kernel
theorem dX9_piece_27 : decode cX9_piece 27 = .ok (.iconst 1, 1) := by decide +kernel
theorem dX9_piece_28 : decode cX9_piece 28 = .ok (.invokevirtual 210, 3) := by decide +kernel
theorem dX9_piece_31 : decode cX9_piece 31 = .ok (.ireturn, 1) := by decide +kernel
theorem dX9_piece_32 : decode cX9_piece 32 = .ok (.aload_n 0, 1) := by decide +kernel
theorem dX9_piece_33 : decode cX9_piece 33 = .ok (.iload_n 1, 1) := by decide +kernel
theorem dX9_piece_34 : decode cX9_piece 34 = .ok (.invokestatic 274, 3) := by decide +kernel
theorem dX9_piece_37 : decode cX9_piece 37 = .ok (.invokevirtual 277, 3) := by decide +kernel
theorem dX9_piece_40 : decode cX9_piece 40 = .ok (.pop, 1) := by decide +kernel
theorem dX9_piece_41 : decode cX9_piece 41 = .ok (.iload_n 2, 1) := by decide +kernel
theorem dX9_piece_42 : decode cX9_piece 42 = .ok (.aload_n 0, 1) := by decide +kernel
theorem dX9_piece_43 : decode cX9_piece 43 = .ok (.getfield 252, 3) := by decide +kernel
theorem dX9_piece_46 : decode cX9_piece 46 = .ok (.if_icmp .lt 9, 3) := by decide +kernel
theorem dX9_piece_49 : decode cX9_piece 49 = .ok (.aload_n 0, 1) := by decide +kernel
theorem dX9_piece_50 : decode cX9_piece 50 = .ok (.iconst 1, 1) := by decide +kernel
theorem dX9_piece_51 : decode cX9_piece 51 = .ok (.invokevirtual 210, 3) := by decide +kernel
theorem dX9_piece_54 : decode cX9_piece 54 = .ok (.ireturn, 1) := by decide +kernel
theorem dX9_piece_55 : decode cX9_piece 55 = .ok (.iload_n 3, 1) := by decide +kernel
theorem dX9_piece_56 : decode cX9_piece 56 = .ok (.tableswitch 61 0 2 #[28, 39, 50], 28) := by decide +kernel
theorem dX9_piece_84 : decode cX9_piece 84 = .ok (.aload_n 0, 1) := by decide +kernel
theorem dX9_piece_85 : decode cX9_piece 85 = .ok (.aload_n 0, 1) := by decide +kernel
theorem dX9_piece_86 : decode cX9_piece 86 = .ok (.getfield 57, 3) := by decide +kernel
theorem dX9_piece_89 : decode cX9_piece 89 = .ok (.iload_n 2, 1) := by decide +kernel
theorem dX9_piece_90 : decode cX9_piece 90 = .ok (.iaload, 1) := by decide +kernel
theorem dX9_piece_91 : decode cX9_piece 91 = .ok (.invokevirtual 222, 3) := by decide +kernel
theorem dX9_piece_94 : decode cX9_piece 94 = .ok (.ireturn, 1) := by decide +kernel
theorem dX9_piece_95 : decode cX9_piece 95 = .ok (.aload_n 0, 1) := by decide +kernel
theorem dX9_piece_96 : decode cX9_piece 96 = .ok (.aload_n 0, 1) := by decide +kernel
theorem dX9_piece_97 : decode cX9_piece 97 = .ok (.getfield 60, 3) := by decide +kernel
theorem dX9_piece_100 : decode cX9_piece 100 = .ok (.iload_n 2, 1) := by decide +kernel
theorem dX9_piece_101 : decode cX9_piece 101 = .ok (.iaload, 1) := by decide +kernel
theorem dX9_piece_102 : decode cX9_piece 102 = .ok (.invokevirtual 222, 3) := by decide +kernel
theorem dX9_piece_105 : decode cX9_piece 105 = .ok (.ireturn, 1) := by decide +kernel
theorem dX9_piece_106 : decode cX9_piece 106 = .ok (.aload_n 0, 1) := by decide +kernel
theorem dX9_piece_107 : decode cX9_piece 107 = .ok (.aload_n 0, 1) := by decide +kernel
theorem dX9_piece_108 : decode cX9_piece 108 = .ok (.getfield 63, 3) := by decide +kernel
theorem dX9_piece_111 : decode cX9_piece 111 = .ok (.iload_n 2, 1) := by decide +kernel
theorem dX9_piece_112 : decode cX9_piece 112 = .ok (.iaload, 1) := by decide +kernel
theorem dX9_piece_113 : decode cX9_piece 113 = .ok (.invokevirtual 222, 3) := by decide +kernel
theorem dX9_piece_116 : decode cX9_piece 116 = .ok (.ireturn, 1) := by decide +kernel
theorem dX9_piece_117 : decode cX9_piece 117 = .ok (.aload_n 0, 1) := by decide +kernel
theorem dX9_piece_118 : decode cX9_piece 118 = .ok (.aload_n 0, 1) := by decide +kernel
theorem dX9_piece_119 : decode cX9_piece 119 = .ok (.getfield 66, 3) := by decide +kernel
theorem dX9_piece_122 : decode cX9_piece 122 = .ok (.iload_n 2, 1) := by decide +kernel
theorem dX9_piece_123 : decode cX9_piece 123 = .ok (.iaload, 1) := by decide +kernel
theorem dX9_piece_124 : decode cX9_piece 124 = .ok (.invokevirtual 222, 3) := by decide +kernel
theorem dX9_piece_127 : decode cX9_piece 127 = .ok (.ireturn, 1) := by decide +kernel
theorem dX9_fewest_0 : decode cX9_fewest 0 = .ok (.aload_n 0, 1) := by decide +kernel
theorem dX9_fewest_1 : decode cX9_fewest 1 = .ok (.iconst 0, 1) := by decide +kernel
theorem dX9_fewest_2 : decode cX9_fewest 2 = .ok (.putfield 75, 3) := by decide +kernel
theorem dX9_fewest_5 : decode cX9_fewest 5 = .ok (.aload_n 0, 1) := by decide +kernel
theorem dX9_fewest_6 : decode cX9_fewest 6 = .ok (.iload_n 1, 1) := by decide +kernel
theorem dX9_fewest_7 : decode cX9_fewest 7 = .ok (.invokevirtual 271, 3) := by decide +kernel
theorem dX9_fewest_10 : decode cX9_fewest 10 = .ok (.ifCond .ne 9, 3) := by decide +kernel
theorem dX9_fewest_13 : decode cX9_fewest 13 = .ok (.aload_n 0, 1) := by decide +kernel
theorem dX9_fewest_14 : decode cX9_fewest 14 = .ok (.iconst 1, 1) := by decide +kernel
theorem dX9_fewest_15 : decode cX9_fewest 15 = .ok (.invokevirtual 210, 3) := by decide +kernel
theorem dX9_fewest_18 : decode cX9_fewest 18 = .ok (.ireturn, 1) := by decide +kernel
theorem dX9_fewest_19 : decode cX9_fewest 19 = .ok (.aload_n 0, 1) := by decide +kernel
theorem dX9_fewest_20 : decode cX9_fewest 20 = .ok (.iload_n 1, 1) := by decide +kernel
theorem dX9_fewest_21 : decode cX9_fewest 21 = .ok (.invokestatic 274, 3) := by decide +kernel
theorem dX9_fewest_24 : decode cX9_fewest 24 = .ok (.invokevirtual 277, 3) := by decide +kernel
theorem dX9_fewest_27 : decode cX9_fewest 27 = .ok (.pop, 1) := by decide +kernel
theorem dX9_fewest_28 : decode cX9_fewest 28 = .ok (.aload_n 0, 1) := by decide +kernel
theorem dX9_fewest_29 : decode cX9_fewest 29 = .ok (.aload_n 0, 1) := by decide +kernel
theorem dX9_fewest_30 : decode cX9_fewest 30 = .ok (.getfield 54, 3) := by decide +kernel
theorem dX9_fewest_33 : decode cX9_fewest 33 = .ok (.iconst 0, 1) := by decide +kernel
theorem dX9_fewest_34 : decode cX9_fewest 34 = .ok (.iaload, 1) := by decide +kernel
theorem dX9_fewest_35 : decode cX9_fewest 35 = .ok (.invokevirtual 222, 3) := by decide +kernel
theorem dX9_fewest_38 : decode cX9_fewest 38 = .ok (.ireturn, 1) := by decide +kernel
theorem dX9_rest_0 : decode cX9_rest 0 = .ok (.aload_n 0, 1) := by decide +kernel
theorem dX9_rest_1 : decode cX9_rest 1 = .ok (.iconst 0, 1) := by decide +kernel
theorem dX9_rest_2 : decode cX9_rest 2 = .ok (.putfield 75, 3) := by decide +kernel
theorem dX9_rest_5 : decode cX9_rest 5 = .ok (.aload_n 0, 1) := by decide +kernel
theorem dX9_rest_6 : decode cX9_rest 6 = .ok (.iload_n 1, 1) := by decide +kernel
theorem dX9_rest_7 : decode cX9_rest 7 = .ok (.invokevirtual 271, 3) := by decide +kernel
theorem dX9_rest_10 : decode cX9_rest 10 = .ok (.ifCond .eq 13, 3) := by decide +kernel
theorem dX9_rest_13 : decode cX9_rest 13 = .ok (.iload_n 2, 1) := by decide +kernel
theorem dX9_rest_14 : decode cX9_rest 14 = .ok (.iconst 0, 1) := by decide +kernel
theorem dX9_rest_15 : decode cX9_rest 15 = .ok (.bipush 15, 2) := by decide +kernel
theorem dX9_rest_17 : decode cX9_rest 17 = .ok (.invokestatic 100, 3) := by decide +kernel
theorem dX9_rest_20 : decode cX9_rest 20 = .ok (.ifCond .ne 9, 3) := by decide +kernel
theorem dX9_rest_23 : decode cX9_rest 23 = .ok (.aload_n 0, 1) := by decide +kernel
theorem dX9_rest_24 : decode cX9_rest 24 = .ok (.iconst 1, 1) := by decide +kernel
theorem dX9_rest_25 : decode cX9_rest 25 = .ok (.invokevirtual 210, 3) := by decide +kernel
theorem dX9_rest_28 : decode cX9_rest 28 = .ok (.ireturn, 1) := by decide +kernel
theorem dX9_rest_29 : decode cX9_rest 29 = .ok (.aload_n 0, 1) := by decide +kernel
theorem dX9_rest_30 : decode cX9_rest 30 = .ok (.iload_n 1, 1) := by decide +kernel
theorem dX9_rest_31 : decode cX9_rest 31 = .ok (.invokestatic 274, 3) := by decide +kernel
theorem dX9_rest_34 : decode cX9_rest 34 = .ok (.invokevirtual 277, 3) := by decide +kernel
theorem dX9_rest_37 : decode cX9_rest 37 = .ok (.pop, 1) := by decide +kernel
theorem dX9_rest_38 : decode cX9_rest 38 = .ok (.aload_n 0, 1) := by decide +kernel
theorem dX9_rest_39 : decode cX9_rest 39 = .ok (.aload_n 0, 1) := by decide +kernel
theorem dX9_rest_40 : decode cX9_rest 40 = .ok (.getfield 51, 3) := by decide +kernel
theorem dX9_rest_43 : decode cX9_rest 43 = .ok (.iload_n 2, 1) := by decide +kernel
theorem dX9_rest_44 : decode cX9_rest 44 = .ok (.iaload, 1) := by decide +kernel
theorem dX9_rest_45 : decode cX9_rest 45 = .ok (.invokevirtual 222, 3) := by decide +kernel
theorem dX9_rest_48 : decode cX9_rest 48 = .ok (.ireturn, 1) := by decide +kernel
theorem dX9_rankOf_0 : decode cX9_rankOf 0 = .ok (.iconst 0, 1) := by decide +kernel
theorem dX9_rankOf_1 : decode cX9_rankOf 1 = .ok (.istore_n 2, 1) := by decide +kernel
theorem dX9_rankOf_2 : decode cX9_rankOf 2 = .ok (.iconst 0, 1) := by decide +kernel
theorem dX9_rankOf_3 : decode cX9_rankOf 3 = .ok (.istore_n 3, 1) := by decide +kernel
theorem dX9_rankOf_4 : decode cX9_rankOf 4 = .ok (.iload_n 3, 1) := by decide +kernel
theorem dX9_rankOf_5 : decode cX9_rankOf 5 = .ok (.aload_n 0, 1) := by decide +kernel
theorem dX9_rankOf_6 : decode cX9_rankOf 6 = .ok (.getfield 219, 3) := by decide +kernel
theorem dX9_rankOf_9 : decode cX9_rankOf 9 = .ok (.if_icmp .ge 52, 3) := by decide +kernel
theorem dX9_rankOf_12 : decode cX9_rankOf 12 = .ok (.iload_n 2, 1) := by decide +kernel
theorem dX9_rankOf_13 : decode cX9_rankOf 13 = .ok (.aload_n 0, 1) := by decide +kernel
theorem dX9_rankOf_14 : decode cX9_rankOf 14 = .ok (.getfield 69, 3) := by decide +kernel
theorem dX9_rankOf_17 : decode cX9_rankOf 17 = .ok (.iload_n 3, 1) := by decide +kernel
theorem dX9_rankOf_18 : decode cX9_rankOf 18 = .ok (.iaload, 1) := by decide +kernel
theorem dX9_rankOf_19 : decode cX9_rankOf 19 = .ok (.aload_n 0, 1) := by decide +kernel
theorem dX9_rankOf_20 : decode cX9_rankOf 20 = .ok (.getfield 69, 3) := by decide +kernel
theorem dX9_rankOf_23 : decode cX9_rankOf 23 = .ok (.iload_n 1, 1) := by decide +kernel
theorem dX9_rankOf_24 : decode cX9_rankOf 24 = .ok (.iaload, 1) := by decide +kernel
theorem dX9_rankOf_25 : decode cX9_rankOf 25 = .ok (.if_icmp .lt 23, 3) := by decide +kernel
theorem dX9_rankOf_28 : decode cX9_rankOf 28 = .ok (.aload_n 0, 1) := by decide +kernel
theorem dX9_rankOf_29 : decode cX9_rankOf 29 = .ok (.getfield 69, 3) := by decide +kernel
theorem dX9_rankOf_32 : decode cX9_rankOf 32 = .ok (.iload_n 3, 1) := by decide +kernel
theorem dX9_rankOf_33 : decode cX9_rankOf 33 = .ok (.iaload, 1) := by decide +kernel
theorem dX9_rankOf_34 : decode cX9_rankOf 34 = .ok (.aload_n 0, 1) := by decide +kernel
theorem dX9_rankOf_35 : decode cX9_rankOf 35 = .ok (.getfield 69, 3) := by decide +kernel
theorem dX9_rankOf_38 : decode cX9_rankOf 38 = .ok (.iload_n 1, 1) := by decide +kernel
theorem dX9_rankOf_39 : decode cX9_rankOf 39 = .ok (.iaload, 1) := by decide +kernel
theorem dX9_rankOf_40 : decode cX9_rankOf 40 = .ok (.if_icmp .ne 12, 3) := by decide +kernel
theorem dX9_rankOf_43 : decode cX9_rankOf 43 = .ok (.iload_n 3, 1) := by decide +kernel
theorem dX9_rankOf_44 : decode cX9_rankOf 44 = .ok (.iload_n 1, 1) := by decide +kernel
theorem dX9_rankOf_45 : decode cX9_rankOf 45 = .ok (.if_icmp .ge 7, 3) := by decide +kernel
theorem dX9_rankOf_48 : decode cX9_rankOf 48 = .ok (.iconst 1, 1) := by decide +kernel
theorem dX9_rankOf_49 : decode cX9_rankOf 49 = .ok (.goto 4, 3) := by decide +kernel
theorem dX9_rankOf_52 : decode cX9_rankOf 52 = .ok (.iconst 0, 1) := by decide +kernel
theorem dX9_rankOf_53 : decode cX9_rankOf 53 = .ok (.iadd, 1) := by decide +kernel
theorem dX9_rankOf_54 : decode cX9_rankOf 54 = .ok (.istore_n 2, 1) := by decide +kernel
theorem dX9_rankOf_55 : decode cX9_rankOf 55 = .ok (.iinc 3 1, 3) := by decide +kernel
theorem dX9_rankOf_58 : decode cX9_rankOf 58 = .ok (.goto (-54), 3) := by decide +kernel
theorem dX9_rankOf_61 : decode cX9_rankOf 61 = .ok (.iload_n 2, 1) := by decide +kernel
theorem dX9_rankOf_62 : decode cX9_rankOf 62 = .ok (.ireturn, 1) := by decide +kernel
theorem dX9_ranked_0 : decode cX9_ranked 0 = .ok (.aload_n 0, 1) := by decide +kernel
theorem dX9_ranked_1 : decode cX9_ranked 1 = .ok (.iconst 0, 1) := by decide +kernel
theorem dX9_ranked_2 : decode cX9_ranked 2 = .ok (.putfield 75, 3) := by decide +kernel
theorem dX9_ranked_5 : decode cX9_ranked 5 = .ok (.aload_n 0, 1) := by decide +kernel
theorem dX9_ranked_6 : decode cX9_ranked 6 = .ok (.getfield 225, 3) := by decide +kernel
theorem dX9_ranked_9 : decode cX9_ranked 9 = .ok (.ifCond .eq 15, 3) := by decide +kernel
theorem dX9_ranked_12 : decode cX9_ranked 12 = .ok (.iload_n 1, 1) := by decide +kernel
theorem dX9_ranked_13 : decode cX9_ranked 13 = .ok (.ifCond .lt 11, 3) := by decide +kernel
theorem dX9_ranked_16 : decode cX9_ranked 16 = .ok (.iload_n 1, 1) := by decide +kernel
theorem dX9_ranked_17 : decode cX9_ranked 17 = .ok (.aload_n 0, 1) := by decide +kernel
theorem dX9_ranked_18 : decode cX9_ranked 18 = .ok (.getfield 219, 3) := by decide +kernel
theorem dX9_ranked_21 : decode cX9_ranked 21 = .ok (.if_icmp .lt 9, 3) := by decide +kernel
theorem dX9_ranked_24 : decode cX9_ranked 24 = .ok (.aload_n 0, 1) := by decide +kernel
theorem dX9_ranked_25 : decode cX9_ranked 25 = .ok (.iconst 1, 1) := by decide +kernel
theorem dX9_ranked_26 : decode cX9_ranked 26 = .ok (.invokevirtual 210, 3) := by decide +kernel
theorem dX9_ranked_29 : decode cX9_ranked 29 = .ok (.ireturn, 1) := by decide +kernel
theorem dX9_ranked_30 : decode cX9_ranked 30 = .ok (.iconst 0, 1) := by decide +kernel
theorem dX9_ranked_31 : decode cX9_ranked 31 = .ok (.istore_n 2, 1) := by decide +kernel
theorem dX9_ranked_32 : decode cX9_ranked 32 = .ok (.iload_n 2, 1) := by decide +kernel
theorem dX9_ranked_33 : decode cX9_ranked 33 = .ok (.aload_n 0, 1) := by decide +kernel
theorem dX9_ranked_34 : decode cX9_ranked 34 = .ok (.getfield 219, 3) := by decide +kernel
theorem dX9_ranked_37 : decode cX9_ranked 37 = .ok (.if_icmp .ge 23, 3) := by decide +kernel
theorem dX9_ranked_40 : decode cX9_ranked 40 = .ok (.aload_n 0, 1) := by decide +kernel
theorem dX9_ranked_41 : decode cX9_ranked 41 = .ok (.getfield 69, 3) := by decide +kernel
theorem dX9_ranked_44 : decode cX9_ranked 44 = .ok (.iload_n 2, 1) := by decide +kernel
theorem dX9_ranked_45 : decode cX9_ranked 45 = .ok (.aload_n 0, 1) := by decide +kernel
theorem dX9_ranked_46 : decode cX9_ranked 46 = .ok (.iload_n 2, 1) := by decide +kernel
theorem dX9_ranked_47 : decode cX9_ranked 47 = .ok (.invokestatic 274, 3) := by decide +kernel
theorem dX9_ranked_50 : decode cX9_ranked 50 = .ok (.invokevirtual 277, 3) := by decide +kernel
theorem dX9_ranked_53 : decode cX9_ranked 53 = .ok (.iastore, 1) := by decide +kernel
theorem dX9_ranked_54 : decode cX9_ranked 54 = .ok (.iinc 2 1, 3) := by decide +kernel
theorem dX9_ranked_57 : decode cX9_ranked 57 = .ok (.goto (-25), 3) := by decide +kernel
theorem dX9_ranked_60 : decode cX9_ranked 60 = .ok (.iconst 0, 1) := by decide +kernel
theorem dX9_ranked_61 : decode cX9_ranked 61 = .ok (.istore_n 2, 1) := by decide +kernel
theorem dX9_ranked_62 : decode cX9_ranked 62 = .ok (.aload_n 0, 1) := by decide +kernel
theorem dX9_ranked_63 : decode cX9_ranked 63 = .ok (.iload_n 2, 1) := by decide +kernel
theorem dX9_ranked_64 : decode cX9_ranked 64 = .ok (.invokevirtual 280, 3) := by decide +kernel
theorem dX9_ranked_67 : decode cX9_ranked 67 = .ok (.iload_n 1, 1) := by decide +kernel
theorem dX9_ranked_68 : decode cX9_ranked 68 = .ok (.if_icmp .eq 9, 3) := by decide +kernel
theorem dX9_ranked_71 : decode cX9_ranked 71 = .ok (.iinc 2 1, 3) := by decide +kernel
theorem dX9_ranked_74 : decode cX9_ranked 74 = .ok (.goto (-12), 3) := by decide +kernel
theorem dX9_ranked_77 : decode cX9_ranked 77 = .ok (.aload_n 0, 1) := by decide +kernel
theorem dX9_ranked_78 : decode cX9_ranked 78 = .ok (.iload_n 2, 1) := by decide +kernel
theorem dX9_ranked_79 : decode cX9_ranked 79 = .ok (.invokevirtual 222, 3) := by decide +kernel
theorem dX9_ranked_82 : decode cX9_ranked 82 = .ok (.ireturn, 1) := by decide +kernel
theorem dX9_sort_0 : decode cX9_sort 0 = .ok (.aload_n 0, 1) := by decide +kernel
theorem dX9_sort_1 : decode cX9_sort 1 = .ok (.iconst 0, 1) := by decide +kernel
theorem dX9_sort_2 : decode cX9_sort 2 = .ok (.putfield 75, 3) := by decide +kernel
theorem dX9_sort_5 : decode cX9_sort 5 = .ok (.aload_n 0, 1) := by decide +kernel
theorem dX9_sort_6 : decode cX9_sort 6 = .ok (.iload_n 1, 1) := by decide +kernel
theorem dX9_sort_7 : decode cX9_sort 7 = .ok (.invokevirtual 271, 3) := by decide +kernel
theorem dX9_sort_10 : decode cX9_sort 10 = .ok (.ifCond .ne 9, 3) := by decide +kernel
theorem dX9_sort_13 : decode cX9_sort 13 = .ok (.aload_n 0, 1) := by decide +kernel
theorem dX9_sort_14 : decode cX9_sort 14 = .ok (.iconst 1, 1) := by decide +kernel
theorem dX9_sort_15 : decode cX9_sort 15 = .ok (.invokevirtual 210, 3) := by decide +kernel
theorem dX9_sort_18 : decode cX9_sort 18 = .ok (.ireturn, 1) := by decide +kernel
theorem dX9_sort_19 : decode cX9_sort 19 = .ok (.aload_n 0, 1) := by decide +kernel
theorem dX9_sort_20 : decode cX9_sort 20 = .ok (.aload_n 0, 1) := by decide +kernel
theorem dX9_sort_21 : decode cX9_sort 21 = .ok (.iload_n 1, 1) := by decide +kernel
theorem dX9_sort_22 : decode cX9_sort 22 = .ok (.invokestatic 274, 3) := by decide +kernel
theorem dX9_sort_25 : decode cX9_sort 25 = .ok (.invokevirtual 283, 3) := by decide +kernel
theorem dX9_sort_28 : decode cX9_sort 28 = .ok (.ifCond .eq 7, 3) := by decide +kernel
theorem dX9_sort_31 : decode cX9_sort 31 = .ok (.iconst 1, 1) := by decide +kernel
theorem dX9_sort_32 : decode cX9_sort 32 = .ok (.goto 23, 3) := by decide +kernel
theorem dX9_sort_35 : decode cX9_sort 35 = .ok (.aload_n 0, 1) := by decide +kernel
theorem dX9_sort_36 : decode cX9_sort 36 = .ok (.iload_n 1, 1) := by decide +kernel
theorem dX9_sort_37 : decode cX9_sort 37 = .ok (.invokestatic 274, 3) := by decide +kernel
theorem dX9_sort_40 : decode cX9_sort 40 = .ok (.invokevirtual 277, 3) := by decide +kernel
theorem dX9_sort_43 : decode cX9_sort 43 = .ok (.aload_n 0, 1) := by decide +kernel
theorem dX9_sort_44 : decode cX9_sort 44 = .ok (.getfield 231, 3) := by decide +kernel
theorem dX9_sort_47 : decode cX9_sort 47 = .ok (.if_icmp .le 7, 3) := by decide +kernel
theorem dX9_sort_50 : decode cX9_sort 50 = .ok (.iconst 2, 1) := by decide +kernel
theorem dX9_sort_51 : decode cX9_sort 51 = .ok (.goto 4, 3) := by decide +kernel
theorem dX9_sort_54 : decode cX9_sort 54 = .ok (.iconst 0, 1) := by decide +kernel
theorem dX9_sort_55 : decode cX9_sort 55 = .ok (.invokevirtual 222, 3) := by decide +kernel
theorem dX9_sort_58 : decode cX9_sort 58 = .ok (.ireturn, 1) := by decide +kernel
theorem dX9_homeOf_0 : decode cX9_homeOf 0 = .ok (.iload_n 0, 1) := by decide +kernel
theorem dX9_homeOf_1 : decode cX9_homeOf 1 = .ok (.iload_n 1, 1) := by decide +kernel
theorem dX9_homeOf_2 : decode cX9_homeOf 2 = .ok (.iadd, 1) := by decide +kernel
theorem dX9_homeOf_3 : decode cX9_homeOf 3 = .ok (.iconst 1, 1) := by decide +kernel
theorem dX9_homeOf_4 : decode cX9_homeOf 4 = .ok (.isub, 1) := by decide +kernel
theorem dX9_homeOf_5 : decode cX9_homeOf 5 = .ok (.iload_n 1, 1) := by decide +kernel
theorem dX9_homeOf_6 : decode cX9_homeOf 6 = .ok (.idiv, 1) := by decide +kernel
theorem dX9_homeOf_7 : decode cX9_homeOf 7 = .ok (.iload_n 1, 1) := by decide +kernel
theorem dX9_homeOf_8 : decode cX9_homeOf 8 = .ok (.imul, 1) := by decide +kernel
theorem dX9_homeOf_9 : decode cX9_homeOf 9 = .ok (.ireturn, 1) := by decide +kernel
theorem dX9_framesOf_0 : decode cX9_framesOf 0 = .ok (.iconst 1, 1) := by decide +kernel
theorem dX9_framesOf_1 : decode cX9_framesOf 1 = .ok (.istore_n 1, 1) := by decide +kernel
theorem dX9_framesOf_2 : decode cX9_framesOf 2 = .ok (.iconst 2, 1) := by decide +kernel
theorem dX9_framesOf_3 : decode cX9_framesOf 3 = .ok (.istore_n 2, 1) := by decide +kernel
theorem dX9_framesOf_4 : decode cX9_framesOf 4 = .ok (.iload_n 2, 1) := by decide +kernel
theorem dX9_framesOf_5 : decode cX9_framesOf 5 = .ok (.iconst 4, 1) := by decide +kernel
theorem dX9_framesOf_6 : decode cX9_framesOf 6 = .ok (.if_icmp .gt 30, 3) := by decide +kernel
theorem dX9_framesOf_9 : decode cX9_framesOf 9 = .ok (.bipush 16, 2) := by decide +kernel
theorem dX9_framesOf_11 : decode cX9_framesOf 11 = .ok (.iload_n 2, 1) := by decide +kernel
theorem dX9_framesOf_12 : decode cX9_framesOf 12 = .ok (.imul, 1) := by decide +kernel
theorem dX9_framesOf_13 : decode cX9_framesOf 13 = .ok (.iload_n 0, 1) := by decide +kernel
theorem dX9_framesOf_14 : decode cX9_framesOf 14 = .ok (.irem, 1) := by decide +kernel
theorem dX9_framesOf_15 : decode cX9_framesOf 15 = .ok (.iload_n 1, 1) := by decide +kernel
theorem dX9_framesOf_16 : decode cX9_framesOf 16 = .ok (.imul, 1) := by decide +kernel
theorem dX9_framesOf_17 : decode cX9_framesOf 17 = .ok (.bipush 16, 2) := by decide +kernel
theorem dX9_framesOf_19 : decode cX9_framesOf 19 = .ok (.iload_n 1, 1) := by decide +kernel
theorem dX9_framesOf_20 : decode cX9_framesOf 20 = .ok (.imul, 1) := by decide +kernel
theorem dX9_framesOf_21 : decode cX9_framesOf 21 = .ok (.iload_n 0, 1) := by decide +kernel
theorem dX9_framesOf_22 : decode cX9_framesOf 22 = .ok (.irem, 1) := by decide +kernel
theorem dX9_framesOf_23 : decode cX9_framesOf 23 = .ok (.iload_n 2, 1) := by decide +kernel
theorem dX9_framesOf_24 : decode cX9_framesOf 24 = .ok (.imul, 1) := by decide +kernel
theorem dX9_framesOf_25 : decode cX9_framesOf 25 = .ok (.if_icmp .ge 5, 3) := by decide +kernel
theorem dX9_framesOf_28 : decode cX9_framesOf 28 = .ok (.iload_n 2, 1) := by decide +kernel
theorem dX9_framesOf_29 : decode cX9_framesOf 29 = .ok (.istore_n 1, 1) := by decide +kernel
theorem dX9_framesOf_30 : decode cX9_framesOf 30 = .ok (.iinc 2 1, 3) := by decide +kernel
theorem dX9_framesOf_33 : decode cX9_framesOf 33 = .ok (.goto (-29), 3) := by decide +kernel
theorem dX9_framesOf_36 : decode cX9_framesOf 36 = .ok (.iload_n 1, 1) := by decide +kernel
theorem dX9_framesOf_37 : decode cX9_framesOf 37 = .ok (.ireturn, 1) := by decide +kernel
theorem dX9_slotsOf_0 : decode cX9_slotsOf 0 = .ok (.bipush 16, 2) := by decide +kernel
theorem dX9_slotsOf_2 : decode cX9_slotsOf 2 = .ok (.iload_n 0, 1) := by decide +kernel
theorem dX9_slotsOf_3 : decode cX9_slotsOf 3 = .ok (.invokestatic 286, 3) := by decide +kernel
theorem dX9_slotsOf_6 : decode cX9_slotsOf 6 = .ok (.imul, 1) := by decide +kernel
theorem dX9_slotsOf_7 : decode cX9_slotsOf 7 = .ok (.iload_n 0, 1) := by decide +kernel
theorem dX9_slotsOf_8 : decode cX9_slotsOf 8 = .ok (.idiv, 1) := by decide +kernel
theorem dX9_slotsOf_9 : decode cX9_slotsOf 9 = .ok (.ireturn, 1) := by decide +kernel
theorem dX9_home_0 : decode cX9_home 0 = .ok (.aload_n 0, 1) := by decide +kernel
theorem dX9_home_1 : decode cX9_home 1 = .ok (.iconst 0, 1) := by decide +kernel
theorem dX9_home_2 : decode cX9_home 2 = .ok (.putfield 75, 3) := by decide +kernel
theorem dX9_home_5 : decode cX9_home 5 = .ok (.aload_n 0, 1) := by decide +kernel
theorem dX9_home_6 : decode cX9_home 6 = .ok (.getfield 225, 3) := by decide +kernel
theorem dX9_home_9 : decode cX9_home 9 = .ok (.ifCond .ne 9, 3) := by decide +kernel
theorem dX9_home_12 : decode cX9_home 12 = .ok (.aload_n 0, 1) := by decide +kernel
theorem dX9_home_13 : decode cX9_home 13 = .ok (.iconst 1, 1) := by decide +kernel
theorem dX9_home_14 : decode cX9_home 14 = .ok (.invokevirtual 210, 3) := by decide +kernel
theorem dX9_home_17 : decode cX9_home 17 = .ok (.ireturn, 1) := by decide +kernel
theorem dX9_home_18 : decode cX9_home 18 = .ok (.iload_n 1, 1) := by decide +kernel
theorem dX9_home_19 : decode cX9_home 19 = .ok (.iconst 2, 1) := by decide +kernel
theorem dX9_home_20 : decode cX9_home 20 = .ok (.bipush 15, 2) := by decide +kernel
theorem dX9_home_22 : decode cX9_home 22 = .ok (.invokestatic 100, 3) := by decide +kernel
theorem dX9_home_25 : decode cX9_home 25 = .ok (.ifCond .eq 18, 3) := by decide +kernel
theorem dX9_home_28 : decode cX9_home 28 = .ok (.aload_n 0, 1) := by decide +kernel
theorem dX9_home_29 : decode cX9_home 29 = .ok (.iload_n 1, 1) := by decide +kernel
theorem dX9_home_30 : decode cX9_home 30 = .ok (.aload_n 0, 1) := by decide +kernel
theorem dX9_home_31 : decode cX9_home 31 = .ok (.getfield 229, 3) := by decide +kernel
theorem dX9_home_34 : decode cX9_home 34 = .ok (.invokestatic 289, 3) := by decide +kernel
theorem dX9_home_37 : decode cX9_home 37 = .ok (.invokevirtual 222, 3) := by decide +kernel
theorem dX9_home_40 : decode cX9_home 40 = .ok (.goto 8, 3) := by decide +kernel
theorem dX9_home_43 : decode cX9_home 43 = .ok (.aload_n 0, 1) := by decide +kernel
theorem dX9_home_44 : decode cX9_home 44 = .ok (.iconst 2, 1) := by decide +kernel
theorem dX9_home_45 : decode cX9_home 45 = .ok (.invokevirtual 210, 3) := by decide +kernel
theorem dX9_home_48 : decode cX9_home 48 = .ok (.ireturn, 1) := by decide +kernel
theorem dX9_isClass_0 : decode cX9_isClass 0 = .ok (.aload_n 0, 1) := by decide +kernel
theorem dX9_isClass_1 : decode cX9_isClass 1 = .ok (.getfield 225, 3) := by decide +kernel
theorem dX9_isClass_4 : decode cX9_isClass 4 = .ok (.ifCond .eq 26, 3) := by decide +kernel
theorem dX9_isClass_7 : decode cX9_isClass 7 = .ok (.iload_n 1, 1) := by decide +kernel
theorem dX9_isClass_8 : decode cX9_isClass 8 = .ok (.iconst 1, 1) := by decide +kernel
theorem dX9_isClass_9 : decode cX9_isClass 9 = .ok (.bipush 16, 2) := by decide +kernel
theorem dX9_isClass_11 : decode cX9_isClass 11 = .ok (.invokestatic 100, 3) := by decide +kernel
theorem dX9_isClass_14 : decode cX9_isClass 14 = .ok (.ifCond .eq 16, 3) := by decide +kernel
theorem dX9_isClass_17 : decode cX9_isClass 17 = .ok (.iload_n 1, 1) := by decide +kernel
theorem dX9_isClass_18 : decode cX9_isClass 18 = .ok (.aload_n 0, 1) := by decide +kernel
theorem dX9_isClass_19 : decode cX9_isClass 19 = .ok (.getfield 229, 3) := by decide +kernel
theorem dX9_isClass_22 : decode cX9_isClass 22 = .ok (.irem, 1) := by decide +kernel
theorem dX9_isClass_23 : decode cX9_isClass 23 = .ok (.ifCond .ne 7, 3) := by decide +kernel
theorem dX9_isClass_26 : decode cX9_isClass 26 = .ok (.iconst 1, 1) := by decide +kernel
theorem dX9_isClass_27 : decode cX9_isClass 27 = .ok (.goto 4, 3) := by decide +kernel
theorem dX9_isClass_30 : decode cX9_isClass 30 = .ok (.iconst 0, 1) := by decide +kernel
theorem dX9_isClass_31 : decode cX9_isClass 31 = .ok (.ireturn, 1) := by decide +kernel
theorem dX9_sizes_0 : decode cX9_sizes 0 = .ok (.aload_n 0, 1) := by decide +kernel
theorem dX9_sizes_1 : decode cX9_sizes 1 = .ok (.iconst 0, 1) := by decide +kernel
theorem dX9_sizes_2 : decode cX9_sizes 2 = .ok (.putfield 75, 3) := by decide +kernel
theorem dX9_sizes_5 : decode cX9_sizes 5 = .ok (.aload_n 0, 1) := by decide +kernel
theorem dX9_sizes_6 : decode cX9_sizes 6 = .ok (.iload_n 1, 1) := by decide +kernel
theorem dX9_sizes_7 : decode cX9_sizes 7 = .ok (.invokevirtual 292, 3) := by decide +kernel
theorem dX9_sizes_10 : decode cX9_sizes 10 = .ok (.ifCond .eq 12, 3) := by decide +kernel
theorem dX9_sizes_13 : decode cX9_sizes 13 = .ok (.iload_n 2, 1) := by decide +kernel
theorem dX9_sizes_14 : decode cX9_sizes 14 = .ok (.iconst 0, 1) := by decide +kernel
theorem dX9_sizes_15 : decode cX9_sizes 15 = .ok (.iconst 4, 1) := by decide +kernel
theorem dX9_sizes_16 : decode cX9_sizes 16 = .ok (.invokestatic 100, 3) := by decide +kernel
theorem dX9_sizes_19 : decode cX9_sizes 19 = .ok (.ifCond .ne 9, 3) := by decide +kernel
theorem dX9_sizes_22 : decode cX9_sizes 22 = .ok (.aload_n 0, 1) := by decide +kernel
theorem dX9_sizes_23 : decode cX9_sizes 23 = .ok (.iconst 1, 1) := by decide +kernel
theorem dX9_sizes_24 : decode cX9_sizes 24 = .ok (.invokevirtual 210, 3) := by decide +kernel
theorem dX9_sizes_27 : decode cX9_sizes 27 = .ok (.ireturn, 1) := by decide +kernel
theorem dX9_sizes_28 : decode cX9_sizes 28 = .ok (.iload_n 2, 1) := by decide +kernel
theorem dX9_sizes_29 : decode cX9_sizes 29 = .ok (.tableswitch 73 0 3 #[31, 40, 49, 63], 31) := by decide +kernel
theorem dX9_sizes_60 : decode cX9_sizes 60 = .ok (.aload_n 0, 1) := by decide +kernel
theorem dX9_sizes_61 : decode cX9_sizes 61 = .ok (.iload_n 1, 1) := by decide +kernel
theorem dX9_sizes_62 : decode cX9_sizes 62 = .ok (.invokestatic 286, 3) := by decide +kernel
theorem dX9_sizes_65 : decode cX9_sizes 65 = .ok (.invokevirtual 222, 3) := by decide +kernel
theorem dX9_sizes_68 : decode cX9_sizes 68 = .ok (.ireturn, 1) := by decide +kernel
theorem dX9_sizes_69 : decode cX9_sizes 69 = .ok (.aload_n 0, 1) := by decide +kernel
theorem dX9_sizes_70 : decode cX9_sizes 70 = .ok (.iload_n 1, 1) := by decide +kernel
theorem dX9_sizes_71 : decode cX9_sizes 71 = .ok (.invokestatic 295, 3) := by decide +kernel
theorem dX9_sizes_74 : decode cX9_sizes 74 = .ok (.invokevirtual 222, 3) := by decide +kernel
theorem dX9_sizes_77 : decode cX9_sizes 77 = .ok (.ireturn, 1) := by decide +kernel
theorem dX9_sizes_78 : decode cX9_sizes 78 = .ok (.aload_n 0, 1) := by decide +kernel
theorem dX9_sizes_79 : decode cX9_sizes 79 = .ok (.bipush 16, 2) := by decide +kernel
theorem dX9_sizes_81 : decode cX9_sizes 81 = .ok (.iload_n 1, 1) := by decide +kernel
theorem dX9_sizes_82 : decode cX9_sizes 82 = .ok (.invokestatic 286, 3) := by decide +kernel
theorem dX9_sizes_85 : decode cX9_sizes 85 = .ok (.imul, 1) := by decide +kernel
theorem dX9_sizes_86 : decode cX9_sizes 86 = .ok (.iload_n 1, 1) := by decide +kernel
theorem dX9_sizes_87 : decode cX9_sizes 87 = .ok (.irem, 1) := by decide +kernel
theorem dX9_sizes_88 : decode cX9_sizes 88 = .ok (.invokevirtual 222, 3) := by decide +kernel
theorem dX9_sizes_91 : decode cX9_sizes 91 = .ok (.ireturn, 1) := by decide +kernel
theorem dX9_sizes_92 : decode cX9_sizes 92 = .ok (.aload_n 0, 1) := by decide +kernel
theorem dX9_sizes_93 : decode cX9_sizes 93 = .ok (.aload_n 0, 1) := by decide +kernel
theorem dX9_sizes_94 : decode cX9_sizes 94 = .ok (.iload_n 1, 1) := by decide +kernel
theorem dX9_sizes_95 : decode cX9_sizes 95 = .ok (.invokevirtual 298, 3) := by decide +kernel
theorem dX9_sizes_98 : decode cX9_sizes 98 = .ok (.invokevirtual 222, 3) := by decide +kernel
theorem dX9_sizes_101 : decode cX9_sizes 101 = .ok (.ireturn, 1) := by decide +kernel
theorem dX9_sizes_102 : decode cX9_sizes 102 = .ok (.aload_n 0, 1) := by decide +kernel
theorem dX9_sizes_103 : decode cX9_sizes 103 = .ok (.aload_n 0, 1) := by decide +kernel
theorem dX9_sizes_104 : decode cX9_sizes 104 = .ok (.iload_n 1, 1) := by decide +kernel
theorem dX9_sizes_105 : decode cX9_sizes 105 = .ok (.invokevirtual 301, 3) := by decide +kernel
theorem dX9_sizes_108 : decode cX9_sizes 108 = .ok (.invokevirtual 222, 3) := by decide +kernel
theorem dX9_sizes_111 : decode cX9_sizes 111 = .ok (.ireturn, 1) := by decide +kernel
theorem dX9_isZone_0 : decode cX9_isZone 0 = .ok (.aload_n 0, 1) := by decide +kernel
theorem dX9_isZone_1 : decode cX9_isZone 1 = .ok (.getfield 225, 3) := by decide +kernel
theorem dX9_isZone_4 : decode cX9_isZone 4 = .ok (.ifCond .eq 30, 3) := by decide +kernel
theorem dX9_isZone_7 : decode cX9_isZone 7 = .ok (.iload_n 1, 1) := by decide +kernel
theorem dX9_isZone_8 : decode cX9_isZone 8 = .ok (.iconst 0, 1) := by decide +kernel
theorem dX9_isZone_9 : decode cX9_isZone 9 = .ok (.bipush 23, 2) := by decide +kernel
theorem dX9_isZone_11 : decode cX9_isZone 11 = .ok (.invokestatic 100, 3) := by decide +kernel
theorem dX9_isZone_14 : decode cX9_isZone 14 = .ok (.ifCond .eq 20, 3) := by decide +kernel
theorem dX9_isZone_17 : decode cX9_isZone 17 = .ok (.aload_n 0, 1) := by decide +kernel
theorem dX9_isZone_18 : decode cX9_isZone 18 = .ok (.getfield 35, 3) := by decide +kernel
theorem dX9_isZone_21 : decode cX9_isZone 21 = .ok (.sipush 796, 3) := by decide +kernel
theorem dX9_isZone_24 : decode cX9_isZone 24 = .ok (.iload_n 1, 1) := by decide +kernel
theorem dX9_isZone_25 : decode cX9_isZone 25 = .ok (.iadd, 1) := by decide +kernel
theorem dX9_isZone_26 : decode cX9_isZone 26 = .ok (.iaload, 1) := by decide +kernel
theorem dX9_isZone_27 : decode cX9_isZone 27 = .ok (.ifCond .le 7, 3) := by decide +kernel
theorem dX9_isZone_30 : decode cX9_isZone 30 = .ok (.iconst 1, 1) := by decide +kernel
theorem dX9_isZone_31 : decode cX9_isZone 31 = .ok (.goto 4, 3) := by decide +kernel
theorem dX9_isZone_34 : decode cX9_isZone 34 = .ok (.iconst 0, 1) := by decide +kernel
theorem dX9_isZone_35 : decode cX9_isZone 35 = .ok (.ireturn, 1) := by decide +kernel
theorem dX9_classOf_0 : decode cX9_classOf 0 = .ok (.aload_n 0, 1) := by decide +kernel
theorem dX9_classOf_1 : decode cX9_classOf 1 = .ok (.getfield 35, 3) := by decide +kernel
theorem dX9_classOf_4 : decode cX9_classOf 4 = .ok (.sipush 796, 3) := by decide +kernel
theorem dX9_classOf_7 : decode cX9_classOf 7 = .ok (.iload_n 1, 1) := by decide +kernel
theorem dX9_classOf_8 : decode cX9_classOf 8 = .ok (.iadd, 1) := by decide +kernel
theorem dX9_classOf_9 : decode cX9_classOf 9 = .ok (.iaload, 1) := by decide +kernel
theorem dX9_classOf_10 : decode cX9_classOf 10 = .ok (.ireturn, 1) := by decide +kernel
theorem dX9_slotAt_0 : decode cX9_slotAt 0 = .ok (.sipush 820, 3) := by decide +kernel
theorem dX9_slotAt_3 : decode cX9_slotAt 3 = .ok (.bipush 16, 2) := by decide +kernel
theorem dX9_slotAt_5 : decode cX9_slotAt 5 = .ok (.iload_n 0, 1) := by decide +kernel
theorem dX9_slotAt_6 : decode cX9_slotAt 6 = .ok (.imul, 1) := by decide +kernel
theorem dX9_slotAt_7 : decode cX9_slotAt 7 = .ok (.iadd, 1) := by decide +kernel
theorem dX9_slotAt_8 : decode cX9_slotAt 8 = .ok (.iload_n 1, 1) := by decide +kernel
theorem dX9_slotAt_9 : decode cX9_slotAt 9 = .ok (.iadd, 1) := by decide +kernel
theorem dX9_slotAt_10 : decode cX9_slotAt 10 = .ok (.ireturn, 1) := by decide +kernel
theorem dX9_fillOf_0 : decode cX9_fillOf 0 = .ok (.iconst 0, 1) := by decide +kernel
theorem dX9_fillOf_1 : decode cX9_fillOf 1 = .ok (.istore_n 2, 1) := by decide +kernel
theorem dX9_fillOf_2 : decode cX9_fillOf 2 = .ok (.iconst 0, 1) := by decide +kernel
theorem dX9_fillOf_3 : decode cX9_fillOf 3 = .ok (.istore_n 3, 1) := by decide +kernel
theorem dX9_fillOf_4 : decode cX9_fillOf 4 = .ok (.iload_n 3, 1) := by decide +kernel
theorem dX9_fillOf_5 : decode cX9_fillOf 5 = .ok (.bipush 16, 2) := by decide +kernel
theorem dX9_fillOf_7 : decode cX9_fillOf 7 = .ok (.if_icmp .ge 30, 3) := by decide +kernel
theorem dX9_fillOf_10 : decode cX9_fillOf 10 = .ok (.iload_n 2, 1) := by decide +kernel
theorem dX9_fillOf_11 : decode cX9_fillOf 11 = .ok (.aload_n 0, 1) := by decide +kernel
theorem dX9_fillOf_12 : decode cX9_fillOf 12 = .ok (.getfield 35, 3) := by decide +kernel
theorem dX9_fillOf_15 : decode cX9_fillOf 15 = .ok (.iload_n 1, 1) := by decide +kernel
theorem dX9_fillOf_16 : decode cX9_fillOf 16 = .ok (.iload_n 3, 1) := by decide +kernel
theorem dX9_fillOf_17 : decode cX9_fillOf 17 = .ok (.invokestatic 304, 3) := by decide +kernel
theorem dX9_fillOf_20 : decode cX9_fillOf 20 = .ok (.iaload, 1) := by decide +kernel
theorem dX9_fillOf_21 : decode cX9_fillOf 21 = .ok (.ifCond .le 7, 3) := by decide +kernel
theorem dX9_fillOf_24 : decode cX9_fillOf 24 = .ok (.iconst 1, 1) := by decide +kernel
theorem dX9_fillOf_25 : decode cX9_fillOf 25 = .ok (.goto 4, 3) := by decide +kernel
theorem dX9_fillOf_28 : decode cX9_fillOf 28 = .ok (.iconst 0, 1) := by decide +kernel
theorem dX9_fillOf_29 : decode cX9_fillOf 29 = .ok (.iadd, 1) := by decide +kernel
theorem dX9_fillOf_30 : decode cX9_fillOf 30 = .ok (.istore_n 2, 1) := by decide +kernel
theorem dX9_fillOf_31 : decode cX9_fillOf 31 = .ok (.iinc 3 1, 3) := by decide +kernel
theorem dX9_fillOf_34 : decode cX9_fillOf 34 = .ok (.goto (-30), 3) := by decide +kernel
theorem dX9_fillOf_37 : decode cX9_fillOf 37 = .ok (.iload_n 2, 1) := by decide +kernel
theorem dX9_fillOf_38 : decode cX9_fillOf 38 = .ok (.ireturn, 1) := by decide +kernel
theorem dX9_isFull_0 : decode cX9_isFull 0 = .ok (.aload_n 0, 1) := by decide +kernel
theorem dX9_isFull_1 : decode cX9_isFull 1 = .ok (.iload_n 1, 1) := by decide +kernel
theorem dX9_isFull_2 : decode cX9_isFull 2 = .ok (.invokevirtual 307, 3) := by decide +kernel
theorem dX9_isFull_5 : decode cX9_isFull 5 = .ok (.aload_n 0, 1) := by decide +kernel
theorem dX9_isFull_6 : decode cX9_isFull 6 = .ok (.iload_n 1, 1) := by decide +kernel
theorem dX9_isFull_7 : decode cX9_isFull 7 = .ok (.invokevirtual 310, 3) := by decide +kernel
theorem dX9_isFull_10 : decode cX9_isFull 10 = .ok (.invokestatic 295, 3) := by decide +kernel
theorem dX9_isFull_13 : decode cX9_isFull 13 = .ok (.if_icmp .ne 7, 3) := by decide +kernel
theorem dX9_isFull_16 : decode cX9_isFull 16 = .ok (.iconst 1, 1) := by decide +kernel
theorem dX9_isFull_17 : decode cX9_isFull 17 = .ok (.goto 4, 3) := by decide +kernel
theorem dX9_isFull_20 : decode cX9_isFull 20 = .ok (.iconst 0, 1) := by decide +kernel
theorem dX9_isFull_21 : decode cX9_isFull 21 = .ok (.ireturn, 1) := by decide +kernel
theorem dX9_zonesOf_0 : decode cX9_zonesOf 0 = .ok (.iconst 0, 1) := by decide +kernel
theorem dX9_zonesOf_1 : decode cX9_zonesOf 1 = .ok (.istore_n 2, 1) := by decide +kernel
theorem dX9_zonesOf_2 : decode cX9_zonesOf 2 = .ok (.iconst 0, 1) := by decide +kernel
theorem dX9_zonesOf_3 : decode cX9_zonesOf 3 = .ok (.istore_n 3, 1) := by decide +kernel
theorem dX9_zonesOf_4 : decode cX9_zonesOf 4 = .ok (.iload_n 3, 1) := by decide +kernel
theorem dX9_zonesOf_5 : decode cX9_zonesOf 5 = .ok (.bipush 24, 2) := by decide +kernel
theorem dX9_zonesOf_7 : decode cX9_zonesOf 7 = .ok (.if_icmp .ge 26, 3) := by decide +kernel
theorem dX9_zonesOf_10 : decode cX9_zonesOf 10 = .ok (.iload_n 2, 1) := by decide +kernel
theorem dX9_zonesOf_11 : decode cX9_zonesOf 11 = .ok (.aload_n 0, 1) := by decide +kernel
theorem dX9_zonesOf_12 : decode cX9_zonesOf 12 = .ok (.iload_n 3, 1) := by decide +kernel
theorem dX9_zonesOf_13 : decode cX9_zonesOf 13 = .ok (.invokevirtual 310, 3) := by decide +kernel
theorem dX9_zonesOf_16 : decode cX9_zonesOf 16 = .ok (.iload_n 1, 1) := by decide +kernel
theorem dX9_zonesOf_17 : decode cX9_zonesOf 17 = .ok (.if_icmp .ne 7, 3) := by decide +kernel
theorem dX9_zonesOf_20 : decode cX9_zonesOf 20 = .ok (.iconst 1, 1) := by decide +kernel
theorem dX9_zonesOf_21 : decode cX9_zonesOf 21 = .ok (.goto 4, 3) := by decide +kernel
theorem dX9_zonesOf_24 : decode cX9_zonesOf 24 = .ok (.iconst 0, 1) := by decide +kernel
theorem dX9_zonesOf_25 : decode cX9_zonesOf 25 = .ok (.iadd, 1) := by decide +kernel
theorem dX9_zonesOf_26 : decode cX9_zonesOf 26 = .ok (.istore_n 2, 1) := by decide +kernel
theorem dX9_zonesOf_27 : decode cX9_zonesOf 27 = .ok (.iinc 3 1, 3) := by decide +kernel
theorem dX9_zonesOf_30 : decode cX9_zonesOf 30 = .ok (.goto (-26), 3) := by decide +kernel
theorem dX9_zonesOf_33 : decode cX9_zonesOf 33 = .ok (.iload_n 2, 1) := by decide +kernel
theorem dX9_zonesOf_34 : decode cX9_zonesOf 34 = .ok (.ireturn, 1) := by decide +kernel
theorem dX9_pagesOf_0 : decode cX9_pagesOf 0 = .ok (.iconst 0, 1) := by decide +kernel
theorem dX9_pagesOf_1 : decode cX9_pagesOf 1 = .ok (.istore_n 2, 1) := by decide +kernel
theorem dX9_pagesOf_2 : decode cX9_pagesOf 2 = .ok (.iconst 0, 1) := by decide +kernel
theorem dX9_pagesOf_3 : decode cX9_pagesOf 3 = .ok (.istore_n 3, 1) := by decide +kernel
theorem dX9_pagesOf_4 : decode cX9_pagesOf 4 = .ok (.iload_n 3, 1) := by decide +kernel
theorem dX9_pagesOf_5 : decode cX9_pagesOf 5 = .ok (.bipush 24, 2) := by decide +kernel
theorem dX9_pagesOf_7 : decode cX9_pagesOf 7 = .ok (.if_icmp .ge 30, 3) := by decide +kernel
theorem dX9_pagesOf_10 : decode cX9_pagesOf 10 = .ok (.iload_n 2, 1) := by decide +kernel
theorem dX9_pagesOf_11 : decode cX9_pagesOf 11 = .ok (.aload_n 0, 1) := by decide +kernel
theorem dX9_pagesOf_12 : decode cX9_pagesOf 12 = .ok (.iload_n 3, 1) := by decide +kernel
theorem dX9_pagesOf_13 : decode cX9_pagesOf 13 = .ok (.invokevirtual 310, 3) := by decide +kernel
theorem dX9_pagesOf_16 : decode cX9_pagesOf 16 = .ok (.iload_n 1, 1) := by decide +kernel
theorem dX9_pagesOf_17 : decode cX9_pagesOf 17 = .ok (.if_icmp .ne 11, 3) := by decide +kernel
theorem dX9_pagesOf_20 : decode cX9_pagesOf 20 = .ok (.aload_n 0, 1) := by decide +kernel
theorem dX9_pagesOf_21 : decode cX9_pagesOf 21 = .ok (.iload_n 3, 1) := by decide +kernel
theorem dX9_pagesOf_22 : decode cX9_pagesOf 22 = .ok (.invokevirtual 307, 3) := by decide +kernel
theorem dX9_pagesOf_25 : decode cX9_pagesOf 25 = .ok (.goto 4, 3) := by decide +kernel
theorem dX9_pagesOf_28 : decode cX9_pagesOf 28 = .ok (.iconst 0, 1) := by decide +kernel
theorem dX9_pagesOf_29 : decode cX9_pagesOf 29 = .ok (.iadd, 1) := by decide +kernel
theorem dX9_pagesOf_30 : decode cX9_pagesOf 30 = .ok (.istore_n 2, 1) := by decide +kernel
theorem dX9_pagesOf_31 : decode cX9_pagesOf 31 = .ok (.iinc 3 1, 3) := by decide +kernel
theorem dX9_pagesOf_34 : decode cX9_pagesOf 34 = .ok (.goto (-30), 3) := by decide +kernel
theorem dX9_pagesOf_37 : decode cX9_pagesOf 37 = .ok (.iload_n 2, 1) := by decide +kernel
theorem dX9_pagesOf_38 : decode cX9_pagesOf 38 = .ok (.ireturn, 1) := by decide +kernel
theorem dX9_zonesNow_0 : decode cX9_zonesNow 0 = .ok (.iconst 0, 1) := by decide +kernel
theorem dX9_zonesNow_1 : decode cX9_zonesNow 1 = .ok (.istore_n 1, 1) := by decide +kernel
theorem dX9_zonesNow_2 : decode cX9_zonesNow 2 = .ok (.iconst 0, 1) := by decide +kernel
theorem dX9_zonesNow_3 : decode cX9_zonesNow 3 = .ok (.istore_n 2, 1) := by decide +kernel
theorem dX9_zonesNow_4 : decode cX9_zonesNow 4 = .ok (.iload_n 2, 1) := by decide +kernel
theorem dX9_zonesNow_5 : decode cX9_zonesNow 5 = .ok (.bipush 24, 2) := by decide +kernel
theorem dX9_zonesNow_7 : decode cX9_zonesNow 7 = .ok (.if_icmp .ge 25, 3) := by decide +kernel
theorem dX9_zonesNow_10 : decode cX9_zonesNow 10 = .ok (.iload_n 1, 1) := by decide +kernel
theorem dX9_zonesNow_11 : decode cX9_zonesNow 11 = .ok (.aload_n 0, 1) := by decide +kernel
theorem dX9_zonesNow_12 : decode cX9_zonesNow 12 = .ok (.iload_n 2, 1) := by decide +kernel
theorem dX9_zonesNow_13 : decode cX9_zonesNow 13 = .ok (.invokevirtual 310, 3) := by decide +kernel
theorem dX9_zonesNow_16 : decode cX9_zonesNow 16 = .ok (.ifCond .le 7, 3) := by decide +kernel
theorem dX9_zonesNow_19 : decode cX9_zonesNow 19 = .ok (.iconst 1, 1) := by decide +kernel
theorem dX9_zonesNow_20 : decode cX9_zonesNow 20 = .ok (.goto 4, 3) := by decide +kernel
theorem dX9_zonesNow_23 : decode cX9_zonesNow 23 = .ok (.iconst 0, 1) := by decide +kernel
theorem dX9_zonesNow_24 : decode cX9_zonesNow 24 = .ok (.iadd, 1) := by decide +kernel
theorem dX9_zonesNow_25 : decode cX9_zonesNow 25 = .ok (.istore_n 1, 1) := by decide +kernel
theorem dX9_zonesNow_26 : decode cX9_zonesNow 26 = .ok (.iinc 2 1, 3) := by decide +kernel
theorem dX9_zonesNow_29 : decode cX9_zonesNow 29 = .ok (.goto (-25), 3) := by decide +kernel
theorem dX9_zonesNow_32 : decode cX9_zonesNow 32 = .ok (.iload_n 1, 1) := by decide +kernel
theorem dX9_zonesNow_33 : decode cX9_zonesNow 33 = .ok (.ireturn, 1) := by decide +kernel
theorem dX9_framesNow_0 : decode cX9_framesNow 0 = .ok (.iconst 0, 1) := by decide +kernel
theorem dX9_framesNow_1 : decode cX9_framesNow 1 = .ok (.istore_n 1, 1) := by decide +kernel
theorem dX9_framesNow_2 : decode cX9_framesNow 2 = .ok (.iconst 0, 1) := by decide +kernel
theorem dX9_framesNow_3 : decode cX9_framesNow 3 = .ok (.istore_n 2, 1) := by decide +kernel
theorem dX9_framesNow_4 : decode cX9_framesNow 4 = .ok (.iload_n 2, 1) := by decide +kernel
theorem dX9_framesNow_5 : decode cX9_framesNow 5 = .ok (.bipush 24, 2) := by decide +kernel
theorem dX9_framesNow_7 : decode cX9_framesNow 7 = .ok (.if_icmp .ge 32, 3) := by decide +kernel
theorem dX9_framesNow_10 : decode cX9_framesNow 10 = .ok (.iload_n 1, 1) := by decide +kernel
theorem dX9_framesNow_11 : decode cX9_framesNow 11 = .ok (.aload_n 0, 1) := by decide +kernel
theorem dX9_framesNow_12 : decode cX9_framesNow 12 = .ok (.iload_n 2, 1) := by decide +kernel
theorem dX9_framesNow_13 : decode cX9_framesNow 13 = .ok (.invokevirtual 310, 3) := by decide +kernel
theorem dX9_framesNow_16 : decode cX9_framesNow 16 = .ok (.ifCond .le 14, 3) := by decide +kernel
theorem dX9_framesNow_19 : decode cX9_framesNow 19 = .ok (.aload_n 0, 1) := by decide +kernel
theorem dX9_framesNow_20 : decode cX9_framesNow 20 = .ok (.iload_n 2, 1) := by decide +kernel
theorem dX9_framesNow_21 : decode cX9_framesNow 21 = .ok (.invokevirtual 310, 3) := by decide +kernel
theorem dX9_framesNow_24 : decode cX9_framesNow 24 = .ok (.invokestatic 286, 3) := by decide +kernel
theorem dX9_framesNow_27 : decode cX9_framesNow 27 = .ok (.goto 4, 3) := by decide +kernel
theorem dX9_framesNow_30 : decode cX9_framesNow 30 = .ok (.iconst 0, 1) := by decide +kernel
theorem dX9_framesNow_31 : decode cX9_framesNow 31 = .ok (.iadd, 1) := by decide +kernel
theorem dX9_framesNow_32 : decode cX9_framesNow 32 = .ok (.istore_n 1, 1) := by decide +kernel
theorem dX9_framesNow_33 : decode cX9_framesNow 33 = .ok (.iinc 2 1, 3) := by decide +kernel
theorem dX9_framesNow_36 : decode cX9_framesNow 36 = .ok (.goto (-32), 3) := by decide +kernel
theorem dX9_framesNow_39 : decode cX9_framesNow 39 = .ok (.iload_n 1, 1) := by decide +kernel
theorem dX9_framesNow_40 : decode cX9_framesNow 40 = .ok (.ireturn, 1) := by decide +kernel
theorem dX9_freeSlot_0 : decode cX9_freeSlot 0 = .ok (.iconst 0, 1) := by decide +kernel
theorem dX9_freeSlot_1 : decode cX9_freeSlot 1 = .ok (.istore_n 2, 1) := by decide +kernel
theorem dX9_freeSlot_2 : decode cX9_freeSlot 2 = .ok (.iload_n 2, 1) := by decide +kernel
theorem dX9_freeSlot_3 : decode cX9_freeSlot 3 = .ok (.aload_n 0, 1) := by decide +kernel
theorem dX9_freeSlot_4 : decode cX9_freeSlot 4 = .ok (.iload_n 1, 1) := by decide +kernel
theorem dX9_freeSlot_5 : decode cX9_freeSlot 5 = .ok (.invokevirtual 310, 3) := by decide +kernel
theorem dX9_freeSlot_8 : decode cX9_freeSlot 8 = .ok (.invokestatic 295, 3) := by decide +kernel
theorem dX9_freeSlot_11 : decode cX9_freeSlot 11 = .ok (.if_icmp .ge 24, 3) := by decide +kernel
theorem dX9_freeSlot_14 : decode cX9_freeSlot 14 = .ok (.aload_n 0, 1) := by decide +kernel
theorem dX9_freeSlot_15 : decode cX9_freeSlot 15 = .ok (.getfield 35, 3) := by decide +kernel
theorem dX9_freeSlot_18 : decode cX9_freeSlot 18 = .ok (.iload_n 1, 1) := by decide +kernel
theorem dX9_freeSlot_19 : decode cX9_freeSlot 19 = .ok (.iload_n 2, 1) := by decide +kernel
theorem dX9_freeSlot_20 : decode cX9_freeSlot 20 = .ok (.invokestatic 304, 3) := by decide +kernel
theorem dX9_freeSlot_23 : decode cX9_freeSlot 23 = .ok (.iaload, 1) := by decide +kernel
theorem dX9_freeSlot_24 : decode cX9_freeSlot 24 = .ok (.ifCond .ne 5, 3) := by decide +kernel
theorem dX9_freeSlot_27 : decode cX9_freeSlot 27 = .ok (.iload_n 2, 1) := by decide +kernel
theorem dX9_freeSlot_28 : decode cX9_freeSlot 28 = .ok (.ireturn, 1) := by decide +kernel
theorem dX9_freeSlot_29 : decode cX9_freeSlot 29 = .ok (.iinc 2 1, 3) := by decide +kernel
theorem dX9_freeSlot_32 : decode cX9_freeSlot 32 = .ok (.goto (-30), 3) := by decide +kernel
theorem dX9_freeSlot_35 : decode cX9_freeSlot 35 = .ok (.iconst (-1), 1) := by decide +kernel
theorem dX9_freeSlot_36 : decode cX9_freeSlot 36 = .ok (.ireturn, 1) := by decide +kernel
theorem dX9_fullestOf_0 : decode cX9_fullestOf 0 = .ok (.iconst (-1), 1) := by decide +kernel
theorem dX9_fullestOf_1 : decode cX9_fullestOf 1 = .ok (.istore_n 3, 1) := by decide +kernel
theorem dX9_fullestOf_2 : decode cX9_fullestOf 2 = .ok (.iconst 0, 1) := by decide +kernel
theorem dX9_fullestOf_3 : decode cX9_fullestOf 3 = .ok (.istore 4, 2) := by decide +kernel
theorem dX9_fullestOf_5 : decode cX9_fullestOf 5 = .ok (.iload 4, 2) := by decide +kernel
theorem dX9_fullestOf_7 : decode cX9_fullestOf 7 = .ok (.bipush 24, 2) := by decide +kernel
theorem dX9_fullestOf_9 : decode cX9_fullestOf 9 = .ok (.if_icmp .ge 59, 3) := by decide +kernel
theorem dX9_fullestOf_12 : decode cX9_fullestOf 12 = .ok (.iload 4, 2) := by decide +kernel
theorem dX9_fullestOf_14 : decode cX9_fullestOf 14 = .ok (.iload_n 2, 1) := by decide +kernel
theorem dX9_fullestOf_15 : decode cX9_fullestOf 15 = .ok (.if_icmp .eq 47, 3) := by decide +kernel
theorem dX9_fullestOf_18 : decode cX9_fullestOf 18 = .ok (.aload_n 0, 1) := by decide +kernel
theorem dX9_fullestOf_19 : decode cX9_fullestOf 19 = .ok (.iload 4, 2) := by decide +kernel
theorem dX9_fullestOf_21 : decode cX9_fullestOf 21 = .ok (.invokevirtual 310, 3) := by decide +kernel
theorem dX9_fullestOf_24 : decode cX9_fullestOf 24 = .ok (.iload_n 1, 1) := by decide +kernel
theorem dX9_fullestOf_25 : decode cX9_fullestOf 25 = .ok (.if_icmp .ne 37, 3) := by decide +kernel
theorem dX9_fullestOf_28 : decode cX9_fullestOf 28 = .ok (.aload_n 0, 1) := by decide +kernel
theorem dX9_fullestOf_29 : decode cX9_fullestOf 29 = .ok (.iload 4, 2) := by decide +kernel
theorem dX9_fullestOf_31 : decode cX9_fullestOf 31 = .ok (.invokevirtual 313, 3) := by decide +kernel
theorem dX9_fullestOf_34 : decode cX9_fullestOf 34 = .ok (.ifCond .eq 6, 3) := by decide +kernel
theorem dX9_fullestOf_37 : decode cX9_fullestOf 37 = .ok (.goto 25, 3) := by decide +kernel
theorem dX9_fullestOf_40 : decode cX9_fullestOf 40 = .ok (.iload_n 3, 1) := by decide +kernel
theorem dX9_fullestOf_41 : decode cX9_fullestOf 41 = .ok (.iconst (-1), 1) := by decide +kernel
theorem dX9_fullestOf_42 : decode cX9_fullestOf 42 = .ok (.if_icmp .eq 17, 3) := by decide +kernel
theorem dX9_fullestOf_45 : decode cX9_fullestOf 45 = .ok (.aload_n 0, 1) := by decide +kernel
theorem dX9_fullestOf_46 : decode cX9_fullestOf 46 = .ok (.iload 4, 2) := by decide +kernel
theorem dX9_fullestOf_48 : decode cX9_fullestOf 48 = .ok (.invokevirtual 307, 3) := by decide +kernel
theorem dX9_fullestOf_51 : decode cX9_fullestOf 51 = .ok (.aload_n 0, 1) := by decide +kernel
theorem dX9_fullestOf_52 : decode cX9_fullestOf 52 = .ok (.iload_n 3, 1) := by decide +kernel
theorem dX9_fullestOf_53 : decode cX9_fullestOf 53 = .ok (.invokevirtual 307, 3) := by decide +kernel
theorem dX9_fullestOf_56 : decode cX9_fullestOf 56 = .ok (.if_icmp .le 6, 3) := by decide +kernel
theorem dX9_fullestOf_59 : decode cX9_fullestOf 59 = .ok (.iload 4, 2) := by decide +kernel
theorem dX9_fullestOf_61 : decode cX9_fullestOf 61 = .ok (.istore_n 3, 1) := by decide +kernel
theorem dX9_fullestOf_62 : decode cX9_fullestOf 62 = .ok (.iinc 4 1, 3) := by decide +kernel
theorem dX9_fullestOf_65 : decode cX9_fullestOf 65 = .ok (.goto (-60), 3) := by decide +kernel
theorem dX9_fullestOf_68 : decode cX9_fullestOf 68 = .ok (.iload_n 3, 1) := by decide +kernel
theorem dX9_fullestOf_69 : decode cX9_fullestOf 69 = .ok (.ireturn, 1) := by decide +kernel
theorem dX9_emptiestOf_0 : decode cX9_emptiestOf 0 = .ok (.iconst (-1), 1) := by decide +kernel
theorem dX9_emptiestOf_1 : decode cX9_emptiestOf 1 = .ok (.istore_n 2, 1) := by decide +kernel
theorem dX9_emptiestOf_2 : decode cX9_emptiestOf 2 = .ok (.iconst 0, 1) := by decide +kernel
theorem dX9_emptiestOf_3 : decode cX9_emptiestOf 3 = .ok (.istore_n 3, 1) := by decide +kernel
theorem dX9_emptiestOf_4 : decode cX9_emptiestOf 4 = .ok (.iload_n 3, 1) := by decide +kernel
theorem dX9_emptiestOf_5 : decode cX9_emptiestOf 5 = .ok (.bipush 24, 2) := by decide +kernel
theorem dX9_emptiestOf_7 : decode cX9_emptiestOf 7 = .ok (.if_icmp .ge 49, 3) := by decide +kernel
theorem dX9_emptiestOf_10 : decode cX9_emptiestOf 10 = .ok (.aload_n 0, 1) := by decide +kernel
theorem dX9_emptiestOf_11 : decode cX9_emptiestOf 11 = .ok (.iload_n 3, 1) := by decide +kernel
theorem dX9_emptiestOf_12 : decode cX9_emptiestOf 12 = .ok (.invokevirtual 310, 3) := by decide +kernel
theorem dX9_emptiestOf_15 : decode cX9_emptiestOf 15 = .ok (.iload_n 1, 1) := by decide +kernel
theorem dX9_emptiestOf_16 : decode cX9_emptiestOf 16 = .ok (.if_icmp .ne 34, 3) := by decide +kernel
theorem dX9_emptiestOf_19 : decode cX9_emptiestOf 19 = .ok (.aload_n 0, 1) := by decide +kernel
theorem dX9_emptiestOf_20 : decode cX9_emptiestOf 20 = .ok (.iload_n 3, 1) := by decide +kernel
theorem dX9_emptiestOf_21 : decode cX9_emptiestOf 21 = .ok (.invokevirtual 313, 3) := by decide +kernel
theorem dX9_emptiestOf_24 : decode cX9_emptiestOf 24 = .ok (.ifCond .eq 6, 3) := by decide +kernel
theorem dX9_emptiestOf_27 : decode cX9_emptiestOf 27 = .ok (.goto 23, 3) := by decide +kernel
theorem dX9_emptiestOf_30 : decode cX9_emptiestOf 30 = .ok (.iload_n 2, 1) := by decide +kernel
theorem dX9_emptiestOf_31 : decode cX9_emptiestOf 31 = .ok (.iconst (-1), 1) := by decide +kernel
theorem dX9_emptiestOf_32 : decode cX9_emptiestOf 32 = .ok (.if_icmp .eq 16, 3) := by decide +kernel
theorem dX9_emptiestOf_35 : decode cX9_emptiestOf 35 = .ok (.aload_n 0, 1) := by decide +kernel
theorem dX9_emptiestOf_36 : decode cX9_emptiestOf 36 = .ok (.iload_n 3, 1) := by decide +kernel
theorem dX9_emptiestOf_37 : decode cX9_emptiestOf 37 = .ok (.invokevirtual 307, 3) := by decide +kernel
theorem dX9_emptiestOf_40 : decode cX9_emptiestOf 40 = .ok (.aload_n 0, 1) := by decide +kernel
theorem dX9_emptiestOf_41 : decode cX9_emptiestOf 41 = .ok (.iload_n 2, 1) := by decide +kernel
theorem dX9_emptiestOf_42 : decode cX9_emptiestOf 42 = .ok (.invokevirtual 307, 3) := by decide +kernel
theorem dX9_emptiestOf_45 : decode cX9_emptiestOf 45 = .ok (.if_icmp .gt 5, 3) := by decide +kernel
theorem dX9_emptiestOf_48 : decode cX9_emptiestOf 48 = .ok (.iload_n 3, 1) := by decide +kernel
theorem dX9_emptiestOf_49 : decode cX9_emptiestOf 49 = .ok (.istore_n 2, 1) := by decide +kernel
theorem dX9_emptiestOf_50 : decode cX9_emptiestOf 50 = .ok (.iinc 3 1, 3) := by decide +kernel
theorem dX9_emptiestOf_53 : decode cX9_emptiestOf 53 = .ok (.goto (-49), 3) := by decide +kernel
theorem dX9_emptiestOf_56 : decode cX9_emptiestOf 56 = .ok (.iload_n 2, 1) := by decide +kernel
theorem dX9_emptiestOf_57 : decode cX9_emptiestOf 57 = .ok (.ireturn, 1) := by decide +kernel
theorem dX9_zone_0 : decode cX9_zone 0 = .ok (.aload_n 0, 1) := by decide +kernel
theorem dX9_zone_1 : decode cX9_zone 1 = .ok (.iconst 0, 1) := by decide +kernel
theorem dX9_zone_2 : decode cX9_zone 2 = .ok (.putfield 75, 3) := by decide +kernel
theorem dX9_zone_5 : decode cX9_zone 5 = .ok (.aload_n 0, 1) := by decide +kernel
theorem dX9_zone_6 : decode cX9_zone 6 = .ok (.iload_n 1, 1) := by decide +kernel
theorem dX9_zone_7 : decode cX9_zone 7 = .ok (.invokevirtual 316, 3) := by decide +kernel
theorem dX9_zone_10 : decode cX9_zone 10 = .ok (.ifCond .eq 12, 3) := by decide +kernel
theorem dX9_zone_13 : decode cX9_zone 13 = .ok (.iload_n 2, 1) := by decide +kernel
theorem dX9_zone_14 : decode cX9_zone 14 = .ok (.iconst 0, 1) := by decide +kernel
theorem dX9_zone_15 : decode cX9_zone 15 = .ok (.iconst 2, 1) := by decide +kernel
theorem dX9_zone_16 : decode cX9_zone 16 = .ok (.invokestatic 100, 3) := by decide +kernel
theorem dX9_zone_19 : decode cX9_zone 19 = .ok (.ifCond .ne 9, 3) := by decide +kernel
theorem dX9_zone_22 : decode cX9_zone 22 = .ok (.aload_n 0, 1) := by decide +kernel
theorem dX9_zone_23 : decode cX9_zone 23 = .ok (.iconst 1, 1) := by decide +kernel
theorem dX9_zone_24 : decode cX9_zone 24 = .ok (.invokevirtual 210, 3) := by decide +kernel
theorem dX9_zone_27 : decode cX9_zone 27 = .ok (.ireturn, 1) := by decide +kernel
theorem dX9_zone_28 : decode cX9_zone 28 = .ok (.aload_n 0, 1) := by decide +kernel
theorem dX9_zone_29 : decode cX9_zone 29 = .ok (.iload_n 2, 1) := by decide +kernel
theorem dX9_zone_30 : decode cX9_zone 30 = .ok (.ifCond .ne 11, 3) := by decide +kernel
theorem dX9_zone_33 : decode cX9_zone 33 = .ok (.aload_n 0, 1) := by decide +kernel
theorem dX9_zone_34 : decode cX9_zone 34 = .ok (.iload_n 1, 1) := by decide +kernel
theorem dX9_zone_35 : decode cX9_zone 35 = .ok (.invokevirtual 310, 3) := by decide +kernel
theorem dX9_zone_38 : decode cX9_zone 38 = .ok (.goto 24, 3) := by decide +kernel
theorem dX9_zone_41 : decode cX9_zone 41 = .ok (.iload_n 2, 1) := by decide +kernel
theorem dX9_zone_42 : decode cX9_zone 42 = .ok (.iconst 1, 1) := by decide +kernel
theorem dX9_zone_43 : decode cX9_zone 43 = .ok (.if_icmp .ne 14, 3) := by decide +kernel
theorem dX9_zone_46 : decode cX9_zone 46 = .ok (.aload_n 0, 1) := by decide +kernel
theorem dX9_zone_47 : decode cX9_zone 47 = .ok (.iload_n 1, 1) := by decide +kernel
theorem dX9_zone_48 : decode cX9_zone 48 = .ok (.invokevirtual 310, 3) := by decide +kernel
theorem dX9_zone_51 : decode cX9_zone 51 = .ok (.invokestatic 286, 3) := by decide +kernel
theorem dX9_zone_54 : decode cX9_zone 54 = .ok (.goto 8, 3) := by decide +kernel
theorem dX9_zone_57 : decode cX9_zone 57 = .ok (.aload_n 0, 1) := by decide +kernel
theorem dX9_zone_58 : decode cX9_zone 58 = .ok (.iload_n 1, 1) := by decide +kernel
theorem dX9_zone_59 : decode cX9_zone 59 = .ok (.invokevirtual 307, 3) := by decide +kernel
theorem dX9_zone_62 : decode cX9_zone 62 = .ok (.invokevirtual 222, 3) := by decide +kernel
theorem dX9_zone_65 : decode cX9_zone 65 = .ok (.ireturn, 1) := by decide +kernel
theorem dX9_slot_0 : decode cX9_slot 0 = .ok (.aload_n 0, 1) := by decide +kernel
theorem dX9_slot_1 : decode cX9_slot 1 = .ok (.iconst 0, 1) := by decide +kernel
theorem dX9_slot_2 : decode cX9_slot 2 = .ok (.putfield 75, 3) := by decide +kernel
theorem dX9_slot_5 : decode cX9_slot 5 = .ok (.aload_n 0, 1) := by decide +kernel
theorem dX9_slot_6 : decode cX9_slot 6 = .ok (.iload_n 1, 1) := by decide +kernel
theorem dX9_slot_7 : decode cX9_slot 7 = .ok (.invokevirtual 316, 3) := by decide +kernel
theorem dX9_slot_10 : decode cX9_slot 10 = .ok (.ifCond .eq 19, 3) := by decide +kernel
theorem dX9_slot_13 : decode cX9_slot 13 = .ok (.iload_n 2, 1) := by decide +kernel
theorem dX9_slot_14 : decode cX9_slot 14 = .ok (.ifCond .lt 15, 3) := by decide +kernel
theorem dX9_slot_17 : decode cX9_slot 17 = .ok (.iload_n 2, 1) := by decide +kernel
theorem dX9_slot_18 : decode cX9_slot 18 = .ok (.aload_n 0, 1) := by decide +kernel
theorem dX9_slot_19 : decode cX9_slot 19 = .ok (.iload_n 1, 1) := by decide +kernel
theorem dX9_slot_20 : decode cX9_slot 20 = .ok (.invokevirtual 310, 3) := by decide +kernel
theorem dX9_slot_23 : decode cX9_slot 23 = .ok (.invokestatic 295, 3) := by decide +kernel
theorem dX9_slot_26 : decode cX9_slot 26 = .ok (.if_icmp .lt 9, 3) := by decide +kernel
theorem dX9_slot_29 : decode cX9_slot 29 = .ok (.aload_n 0, 1) := by decide +kernel
theorem dX9_slot_30 : decode cX9_slot 30 = .ok (.iconst 1, 1) := by decide +kernel
theorem dX9_slot_31 : decode cX9_slot 31 = .ok (.invokevirtual 210, 3) := by decide +kernel
theorem dX9_slot_34 : decode cX9_slot 34 = .ok (.ireturn, 1) := by decide +kernel
theorem dX9_slot_35 : decode cX9_slot 35 = .ok (.aload_n 0, 1) := by decide +kernel
theorem dX9_slot_36 : decode cX9_slot 36 = .ok (.aload_n 0, 1) := by decide +kernel
theorem dX9_slot_37 : decode cX9_slot 37 = .ok (.getfield 35, 3) := by decide +kernel
theorem dX9_slot_40 : decode cX9_slot 40 = .ok (.iload_n 1, 1) := by decide +kernel
theorem dX9_slot_41 : decode cX9_slot 41 = .ok (.iload_n 2, 1) := by decide +kernel
theorem dX9_slot_42 : decode cX9_slot 42 = .ok (.invokestatic 304, 3) := by decide +kernel
theorem dX9_slot_45 : decode cX9_slot 45 = .ok (.iaload, 1) := by decide +kernel
theorem dX9_slot_46 : decode cX9_slot 46 = .ok (.ifCond .ne 8, 3) := by decide +kernel
theorem dX9_slot_49 : decode cX9_slot 49 = .ok (.bipush (-2), 2) := by decide +kernel
theorem dX9_slot_51 : decode cX9_slot 51 = .ok (.goto 15, 3) := by decide +kernel
theorem dX9_slot_54 : decode cX9_slot 54 = .ok (.aload_n 0, 1) := by decide +kernel
theorem dX9_slot_55 : decode cX9_slot 55 = .ok (.getfield 35, 3) := by decide +kernel
theorem dX9_slot_58 : decode cX9_slot 58 = .ok (.iload_n 1, 1) := by decide +kernel
theorem dX9_slot_59 : decode cX9_slot 59 = .ok (.iload_n 2, 1) := by decide +kernel
theorem dX9_slot_60 : decode cX9_slot 60 = .ok (.invokestatic 304, 3) := by decide +kernel
theorem dX9_slot_63 : decode cX9_slot 63 = .ok (.iaload, 1) := by decide +kernel
theorem dX9_slot_64 : decode cX9_slot 64 = .ok (.iconst 1, 1) := by decide +kernel
theorem dX9_slot_65 : decode cX9_slot 65 = .ok (.isub, 1) := by decide +kernel
theorem dX9_slot_66 : decode cX9_slot 66 = .ok (.invokevirtual 222, 3) := by decide +kernel
theorem dX9_slot_69 : decode cX9_slot 69 = .ok (.ireturn, 1) := by decide +kernel
theorem dX9_isPage_0 : decode cX9_isPage 0 = .ok (.aload_n 0, 1) := by decide +kernel
theorem dX9_isPage_1 : decode cX9_isPage 1 = .ok (.getfield 225, 3) := by decide +kernel
theorem dX9_isPage_4 : decode cX9_isPage 4 = .ok (.ifCond .eq 17, 3) := by decide +kernel
theorem dX9_isPage_7 : decode cX9_isPage 7 = .ok (.iload_n 1, 1) := by decide +kernel
theorem dX9_isPage_8 : decode cX9_isPage 8 = .ok (.iconst 0, 1) := by decide +kernel
theorem dX9_isPage_9 : decode cX9_isPage 9 = .ok (.bipush 29, 2) := by decide +kernel
theorem dX9_isPage_11 : decode cX9_isPage 11 = .ok (.invokestatic 100, 3) := by decide +kernel
theorem dX9_isPage_14 : decode cX9_isPage 14 = .ok (.ifCond .eq 7, 3) := by decide +kernel
theorem dX9_isPage_17 : decode cX9_isPage 17 = .ok (.iconst 1, 1) := by decide +kernel
theorem dX9_isPage_18 : decode cX9_isPage 18 = .ok (.goto 4, 3) := by decide +kernel
theorem dX9_isPage_21 : decode cX9_isPage 21 = .ok (.iconst 0, 1) := by decide +kernel
theorem dX9_isPage_22 : decode cX9_isPage 22 = .ok (.ireturn, 1) := by decide +kernel
theorem dX9_placeOf_0 : decode cX9_placeOf 0 = .ok (.aload_n 0, 1) := by decide +kernel
theorem dX9_placeOf_1 : decode cX9_placeOf 1 = .ok (.getfield 35, 3) := by decide +kernel
theorem dX9_placeOf_4 : decode cX9_placeOf 4 = .ok (.sipush 165, 3) := by decide +kernel
theorem dX9_placeOf_7 : decode cX9_placeOf 7 = .ok (.iload_n 1, 1) := by decide +kernel
theorem dX9_placeOf_8 : decode cX9_placeOf 8 = .ok (.iadd, 1) := by decide +kernel
theorem dX9_placeOf_9 : decode cX9_placeOf 9 = .ok (.iaload, 1) := by decide +kernel
theorem dX9_placeOf_10 : decode cX9_placeOf 10 = .ok (.ireturn, 1) := by decide +kernel
theorem dX9_ageOf_0 : decode cX9_ageOf 0 = .ok (.iconst 0, 1) := by decide +kernel
theorem dX9_ageOf_1 : decode cX9_ageOf 1 = .ok (.istore_n 2, 1) := by decide +kernel
theorem dX9_ageOf_2 : decode cX9_ageOf 2 = .ok (.iload_n 2, 1) := by decide +kernel
theorem dX9_ageOf_3 : decode cX9_ageOf 3 = .ok (.aload_n 0, 1) := by decide +kernel
theorem dX9_ageOf_4 : decode cX9_ageOf 4 = .ok (.getfield 35, 3) := by decide +kernel
theorem dX9_ageOf_7 : decode cX9_ageOf 7 = .ok (.sipush 315, 3) := by decide +kernel
theorem dX9_ageOf_10 : decode cX9_ageOf 10 = .ok (.iaload, 1) := by decide +kernel
theorem dX9_ageOf_11 : decode cX9_ageOf 11 = .ok (.if_icmp .ge 25, 3) := by decide +kernel
theorem dX9_ageOf_14 : decode cX9_ageOf 14 = .ok (.aload_n 0, 1) := by decide +kernel
theorem dX9_ageOf_15 : decode cX9_ageOf 15 = .ok (.getfield 35, 3) := by decide +kernel
theorem dX9_ageOf_18 : decode cX9_ageOf 18 = .ok (.sipush 285, 3) := by decide +kernel
theorem dX9_ageOf_21 : decode cX9_ageOf 21 = .ok (.iload_n 2, 1) := by decide +kernel
theorem dX9_ageOf_22 : decode cX9_ageOf 22 = .ok (.iadd, 1) := by decide +kernel
theorem dX9_ageOf_23 : decode cX9_ageOf 23 = .ok (.iaload, 1) := by decide +kernel
theorem dX9_ageOf_24 : decode cX9_ageOf 24 = .ok (.iload_n 1, 1) := by decide +kernel
theorem dX9_ageOf_25 : decode cX9_ageOf 25 = .ok (.if_icmp .ne 5, 3) := by decide +kernel
theorem dX9_ageOf_28 : decode cX9_ageOf 28 = .ok (.iload_n 2, 1) := by decide +kernel
theorem dX9_ageOf_29 : decode cX9_ageOf 29 = .ok (.ireturn, 1) := by decide +kernel
theorem dX9_ageOf_30 : decode cX9_ageOf 30 = .ok (.iinc 2 1, 3) := by decide +kernel
theorem dX9_ageOf_33 : decode cX9_ageOf 33 = .ok (.goto (-31), 3) := by decide +kernel
theorem dX9_ageOf_36 : decode cX9_ageOf 36 = .ok (.iconst (-1), 1) := by decide +kernel
theorem dX9_ageOf_37 : decode cX9_ageOf 37 = .ok (.ireturn, 1) := by decide +kernel
theorem dX9_growsOld_0 : decode cX9_growsOld 0 = .ok (.aload_n 0, 1) := by decide +kernel
theorem dX9_growsOld_1 : decode cX9_growsOld 1 = .ok (.getfield 35, 3) := by decide +kernel
theorem dX9_growsOld_4 : decode cX9_growsOld 4 = .ok (.sipush 285, 3) := by decide +kernel
theorem dX9_growsOld_7 : decode cX9_growsOld 7 = .ok (.aload_n 0, 1) := by decide +kernel
theorem dX9_growsOld_8 : decode cX9_growsOld 8 = .ok (.getfield 35, 3) := by decide +kernel
theorem dX9_growsOld_11 : decode cX9_growsOld 11 = .ok (.sipush 315, 3) := by decide +kernel
theorem dX9_growsOld_14 : decode cX9_growsOld 14 = .ok (.iaload, 1) := by decide +kernel
theorem dX9_growsOld_15 : decode cX9_growsOld 15 = .ok (.iadd, 1) := by decide +kernel
theorem dX9_growsOld_16 : decode cX9_growsOld 16 = .ok (.iload_n 1, 1) := by decide +kernel
theorem dX9_growsOld_17 : decode cX9_growsOld 17 = .ok (.iastore, 1) := by decide +kernel
theorem dX9_growsOld_18 : decode cX9_growsOld 18 = .ok (.aload_n 0, 1) := by decide +kernel
theorem dX9_growsOld_19 : decode cX9_growsOld 19 = .ok (.getfield 35, 3) := by decide +kernel
theorem dX9_growsOld_22 : decode cX9_growsOld 22 = .ok (.sipush 315, 3) := by decide +kernel
theorem dX9_growsOld_25 : decode cX9_growsOld 25 = .ok (.dup2, 1) := by decide +kernel
theorem dX9_growsOld_26 : decode cX9_growsOld 26 = .ok (.iaload, 1) := by decide +kernel
theorem dX9_growsOld_27 : decode cX9_growsOld 27 = .ok (.iconst 1, 1) := by decide +kernel
theorem dX9_growsOld_28 : decode cX9_growsOld 28 = .ok (.iadd, 1) := by decide +kernel
theorem dX9_growsOld_29 : decode cX9_growsOld 29 = .ok (.iastore, 1) := by decide +kernel
theorem dX9_growsOld_30 : decode cX9_growsOld 30 = .ok (.return_, 1) := by decide +kernel
theorem dX9_forgets_0 : decode cX9_forgets 0 = .ok (.aload_n 0, 1) := by decide +kernel
theorem dX9_forgets_1 : decode cX9_forgets 1 = .ok (.iload_n 1, 1) := by decide +kernel
theorem dX9_forgets_2 : decode cX9_forgets 2 = .ok (.invokevirtual 319, 3) := by decide +kernel
theorem dX9_forgets_5 : decode cX9_forgets 5 = .ok (.istore_n 2, 1) := by decide +kernel
theorem dX9_forgets_6 : decode cX9_forgets 6 = .ok (.iload_n 2, 1) := by decide +kernel
theorem dX9_forgets_7 : decode cX9_forgets 7 = .ok (.istore_n 3, 1) := by decide +kernel
theorem dX9_forgets_8 : decode cX9_forgets 8 = .ok (.iload_n 3, 1) := by decide +kernel
theorem dX9_forgets_9 : decode cX9_forgets 9 = .ok (.iconst 1, 1) := by decide +kernel
theorem dX9_forgets_10 : decode cX9_forgets 10 = .ok (.iadd, 1) := by decide +kernel
theorem dX9_forgets_11 : decode cX9_forgets 11 = .ok (.aload_n 0, 1) := by decide +kernel
theorem dX9_forgets_12 : decode cX9_forgets 12 = .ok (.getfield 35, 3) := by decide +kernel
theorem dX9_forgets_15 : decode cX9_forgets 15 = .ok (.sipush 315, 3) := by decide +kernel
theorem dX9_forgets_18 : decode cX9_forgets 18 = .ok (.iaload, 1) := by decide +kernel
theorem dX9_forgets_19 : decode cX9_forgets 19 = .ok (.if_icmp .ge 31, 3) := by decide +kernel
theorem dX9_forgets_22 : decode cX9_forgets 22 = .ok (.aload_n 0, 1) := by decide +kernel
theorem dX9_forgets_23 : decode cX9_forgets 23 = .ok (.getfield 35, 3) := by decide +kernel
theorem dX9_forgets_26 : decode cX9_forgets 26 = .ok (.sipush 285, 3) := by decide +kernel
theorem dX9_forgets_29 : decode cX9_forgets 29 = .ok (.iload_n 3, 1) := by decide +kernel
theorem dX9_forgets_30 : decode cX9_forgets 30 = .ok (.iadd, 1) := by decide +kernel
theorem dX9_forgets_31 : decode cX9_forgets 31 = .ok (.aload_n 0, 1) := by decide +kernel
theorem dX9_forgets_32 : decode cX9_forgets 32 = .ok (.getfield 35, 3) := by decide +kernel
theorem dX9_forgets_35 : decode cX9_forgets 35 = .ok (.sipush 285, 3) := by decide +kernel
theorem dX9_forgets_38 : decode cX9_forgets 38 = .ok (.iload_n 3, 1) := by decide +kernel
theorem dX9_forgets_39 : decode cX9_forgets 39 = .ok (.iadd, 1) := by decide +kernel
theorem dX9_forgets_40 : decode cX9_forgets 40 = .ok (.iconst 1, 1) := by decide +kernel
theorem dX9_forgets_41 : decode cX9_forgets 41 = .ok (.iadd, 1) := by decide +kernel
theorem dX9_forgets_42 : decode cX9_forgets 42 = .ok (.iaload, 1) := by decide +kernel
theorem dX9_forgets_43 : decode cX9_forgets 43 = .ok (.iastore, 1) := by decide +kernel
theorem dX9_forgets_44 : decode cX9_forgets 44 = .ok (.iinc 3 1, 3) := by decide +kernel
theorem dX9_forgets_47 : decode cX9_forgets 47 = .ok (.goto (-39), 3) := by decide +kernel
theorem dX9_forgets_50 : decode cX9_forgets 50 = .ok (.aload_n 0, 1) := by decide +kernel
theorem dX9_forgets_51 : decode cX9_forgets 51 = .ok (.getfield 35, 3) := by decide +kernel
theorem dX9_forgets_54 : decode cX9_forgets 54 = .ok (.sipush 315, 3) := by decide +kernel
theorem dX9_forgets_57 : decode cX9_forgets 57 = .ok (.dup2, 1) := by decide +kernel
theorem dX9_forgets_58 : decode cX9_forgets 58 = .ok (.iaload, 1) := by decide +kernel
theorem dX9_forgets_59 : decode cX9_forgets 59 = .ok (.iconst 1, 1) := by decide +kernel
theorem dX9_forgets_60 : decode cX9_forgets 60 = .ok (.isub, 1) := by decide +kernel
theorem dX9_forgets_61 : decode cX9_forgets 61 = .ok (.iastore, 1) := by decide +kernel
theorem dX9_forgets_62 : decode cX9_forgets 62 = .ok (.return_, 1) := by decide +kernel
theorem dX9_comesInto_0 : decode cX9_comesInto 0 = .ok (.aload_n 0, 1) := by decide +kernel
theorem dX9_comesInto_1 : decode cX9_comesInto 1 = .ok (.iload_n 2, 1) := by decide +kernel
theorem dX9_comesInto_2 : decode cX9_comesInto 2 = .ok (.invokevirtual 322, 3) := by decide +kernel
theorem dX9_comesInto_5 : decode cX9_comesInto 5 = .ok (.istore_n 3, 1) := by decide +kernel
theorem dX9_comesInto_6 : decode cX9_comesInto 6 = .ok (.aload_n 0, 1) := by decide +kernel
theorem dX9_comesInto_7 : decode cX9_comesInto 7 = .ok (.getfield 35, 3) := by decide +kernel
theorem dX9_comesInto_10 : decode cX9_comesInto 10 = .ok (.iload_n 2, 1) := by decide +kernel
theorem dX9_comesInto_11 : decode cX9_comesInto 11 = .ok (.iload_n 3, 1) := by decide +kernel
theorem dX9_comesInto_12 : decode cX9_comesInto 12 = .ok (.invokestatic 304, 3) := by decide +kernel
theorem dX9_comesInto_15 : decode cX9_comesInto 15 = .ok (.iload_n 1, 1) := by decide +kernel
