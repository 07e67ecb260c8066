theorem dX8_init_0 : decode cX8_init 0 = .ok (.aload_n 0, 1) := by decide +kernel
theorem dX8_init_1 : decode cX8_init 1 = .ok (.invokespecial 1, 3) := by decide +kernel
theorem dX8_init_4 : decode cX8_init 4 = .ok (.aload_n 0, 1) := by decide +kernel
theorem dX8_init_5 : decode cX8_init 5 = .ok (.sipush 900, 3) := by decide +kernel
theorem dX8_init_8 : decode cX8_init 8 = .ok (.newarray .int, 2) := by decide +kernel
theorem dX8_init_10 : decode cX8_init 10 = .ok (.putfield 9, 3) := by decide +kernel
theorem dX8_init_13 : decode cX8_init 13 = .ok (.aload_n 0, 1) := by decide +kernel
theorem dX8_init_14 : decode cX8_init 14 = .ok (.new 13, 3) := by decide +kernel
theorem dX8_init_17 : decode cX8_init 17 = .ok (.dup, 1) := by decide +kernel
theorem dX8_init_18 : decode cX8_init 18 = .ok (.invokespecial 15, 3) := by decide +kernel
theorem dX8_init_21 : decode cX8_init 21 = .ok (.putfield 16, 3) := by decide +kernel
theorem dX8_init_24 : decode cX8_init 24 = .ok (.aload_n 0, 1) := by decide +kernel
theorem dX8_init_25 : decode cX8_init 25 = .ok (.new 20, 3) := by decide +kernel
theorem dX8_init_28 : decode cX8_init 28 = .ok (.dup, 1) := by decide +kernel
theorem dX8_init_29 : decode cX8_init 29 = .ok (.invokespecial 22, 3) := by decide +kernel
theorem dX8_init_32 : decode cX8_init 32 = .ok (.putfield 23, 3) := by decide +kernel
theorem dX8_init_35 : decode cX8_init 35 = .ok (.aload_n 0, 1) := by decide +kernel
theorem dX8_init_36 : decode cX8_init 36 = .ok (.new 27, 3) := by decide +kernel
theorem dX8_init_39 : decode cX8_init 39 = .ok (.dup, 1) := by decide +kernel
theorem dX8_init_40 : decode cX8_init 40 = .ok (.invokespecial 29, 3) := by decide +kernel
theorem dX8_init_43 : decode cX8_init 43 = .ok (.putfield 30, 3) := by decide +kernel
theorem dX8_init_46 : decode cX8_init 46 = .ok (.aload_n 0, 1) := by decide +kernel
theorem dX8_init_47 : decode cX8_init 47 = .ok (.new 34, 3) := by decide +kernel
theorem dX8_init_50 : decode cX8_init 50 = .ok (.dup, 1) := by decide +kernel
theorem dX8_init_51 : decode cX8_init 51 = .ok (.invokespecial 36, 3) := by decide +kernel
theorem dX8_init_54 : decode cX8_init 54 = .ok (.putfield 37, 3) := by decide +kernel
theorem dX8_init_57 : decode cX8_init 57 = .ok (.aload_n 0, 1) := by decide +kernel
theorem dX8_init_58 : decode cX8_init 58 = .ok (.new 41, 3) := by decide +kernel
theorem dX8_init_61 : decode cX8_init 61 = .ok (.dup, 1) := by decide +kernel
theorem dX8_init_62 : decode cX8_init 62 = .ok (.invokespecial 43, 3) := by decide +kernel
theorem dX8_init_65 : decode cX8_init 65 = .ok (.putfield 44, 3) := by decide +kernel
theorem dX8_init_68 : decode cX8_init 68 = .ok (.aload_n 0, 1) := by decide +kernel
theorem dX8_init_69 : decode cX8_init 69 = .ok (.new 48, 3) := by decide +kernel
theorem dX8_init_72 : decode cX8_init 72 = .ok (.dup, 1) := by decide +kernel
theorem dX8_init_73 : decode cX8_init 73 = .ok (.invokespecial 50, 3) := by decide +kernel
theorem dX8_init_76 : decode cX8_init 76 = .ok (.putfield 51, 3) := by decide +kernel
theorem dX8_init_79 : decode cX8_init 79 = .ok (.return_, 1) := by decide +kernel
theorem dX8_feed_0 : decode cX8_feed 0 = .ok (.aload_n 0, 1) := by decide +kernel
theorem dX8_feed_1 : decode cX8_feed 1 = .ok (.getfield 55, 3) := by decide +kernel
theorem dX8_feed_4 : decode cX8_feed 4 = .ok (.bipush 20, 2) := by decide +kernel
theorem dX8_feed_6 : decode cX8_feed 6 = .ok (.iadd, 1) := by decide +kernel
theorem dX8_feed_7 : decode cX8_feed 7 = .ok (.sipush 900, 3) := by decide +kernel
theorem dX8_feed_10 : decode cX8_feed 10 = .ok (.if_icmp .le 5, 3) := by decide +kernel
theorem dX8_feed_13 : decode cX8_feed 13 = .ok (.iconst (-1), 1) := by decide +kernel
theorem dX8_feed_14 : decode cX8_feed 14 = .ok (.ireturn, 1) := by decide +kernel
theorem dX8_feed_15 : decode cX8_feed 15 = .ok (.aload_n 0, 1) := by decide +kernel
theorem dX8_feed_16 : decode cX8_feed 16 = .ok (.iload_n 1, 1) := by decide +kernel
theorem dX8_feed_17 : decode cX8_feed 17 = .ok (.invokevirtual 59, 3) := by decide +kernel
theorem dX8_feed_20 : decode cX8_feed 20 = .ok (.aload_n 0, 1) := by decide +kernel
theorem dX8_feed_21 : decode cX8_feed 21 = .ok (.iload_n 2, 1) := by decide +kernel
theorem dX8_feed_22 : decode cX8_feed 22 = .ok (.invokevirtual 59, 3) := by decide +kernel
theorem dX8_feed_25 : decode cX8_feed 25 = .ok (.aload_n 0, 1) := by decide +kernel
theorem dX8_feed_26 : decode cX8_feed 26 = .ok (.iload_n 3, 1) := by decide +kernel
theorem dX8_feed_27 : decode cX8_feed 27 = .ok (.invokevirtual 59, 3) := by decide +kernel
theorem dX8_feed_30 : decode cX8_feed 30 = .ok (.aload_n 0, 1) := by decide +kernel
theorem dX8_feed_31 : decode cX8_feed 31 = .ok (.iload 4, 2) := by decide +kernel
theorem dX8_feed_33 : decode cX8_feed 33 = .ok (.invokevirtual 59, 3) := by decide +kernel
theorem dX8_feed_36 : decode cX8_feed 36 = .ok (.aload_n 0, 1) := by decide +kernel
theorem dX8_feed_37 : decode cX8_feed 37 = .ok (.iload 5, 2) := by decide +kernel
theorem dX8_feed_39 : decode cX8_feed 39 = .ok (.invokevirtual 59, 3) := by decide +kernel
theorem dX8_feed_42 : decode cX8_feed 42 = .ok (.aload_n 0, 1) := by decide +kernel
theorem dX8_feed_43 : decode cX8_feed 43 = .ok (.getfield 55, 3) := by decide +kernel
theorem dX8_feed_46 : decode cX8_feed 46 = .ok (.ireturn, 1) := by decide +kernel
theorem dX8_swap_0 : decode cX8_swap 0 = .ok (.iload_n 1, 1) := by decide +kernel
theorem dX8_swap_1 : decode cX8_swap 1 = .ok (.ifCond .lt 11, 3) := by decide +kernel
theorem dX8_swap_4 : decode cX8_swap 4 = .ok (.iload_n 1, 1) := by decide +kernel
theorem dX8_swap_5 : decode cX8_swap 5 = .ok (.aload_n 0, 1) := by decide +kernel
theorem dX8_swap_6 : decode cX8_swap 6 = .ok (.getfield 55, 3) := by decide +kernel
theorem dX8_swap_9 : decode cX8_swap 9 = .ok (.if_icmp .le 9, 3) := by decide +kernel
theorem dX8_swap_12 : decode cX8_swap 12 = .ok (.aload_n 0, 1) := by decide +kernel
theorem dX8_swap_13 : decode cX8_swap 13 = .ok (.iconst 2, 1) := by decide +kernel
theorem dX8_swap_14 : decode cX8_swap 14 = .ok (.invokevirtual 63, 3) := by decide +kernel
theorem dX8_swap_17 : decode cX8_swap 17 = .ok (.ireturn, 1) := by decide +kernel
theorem dX8_swap_18 : decode cX8_swap 18 = .ok (.aload_n 0, 1) := by decide +kernel
theorem dX8_swap_19 : decode cX8_swap 19 = .ok (.iconst 0, 1) := by decide +kernel
theorem dX8_swap_20 : decode cX8_swap 20 = .ok (.putfield 55, 3) := by decide +kernel
theorem dX8_swap_23 : decode cX8_swap 23 = .ok (.aload_n 0, 1) := by decide +kernel
theorem dX8_swap_24 : decode cX8_swap 24 = .ok (.aload_n 0, 1) := by decide +kernel
theorem dX8_swap_25 : decode cX8_swap 25 = .ok (.getfield 23, 3) := by decide +kernel
theorem dX8_swap_28 : decode cX8_swap 28 = .ok (.aload_n 0, 1) := by decide +kernel
theorem dX8_swap_29 : decode cX8_swap 29 = .ok (.getfield 9, 3) := by decide +kernel
theorem dX8_swap_32 : decode cX8_swap 32 = .ok (.iload_n 1, 1) := by decide +kernel
theorem dX8_swap_33 : decode cX8_swap 33 = .ok (.invokevirtual 67, 3) := by decide +kernel
theorem dX8_swap_36 : decode cX8_swap 36 = .ok (.putfield 71, 3) := by decide +kernel
theorem dX8_swap_39 : decode cX8_swap 39 = .ok (.aload_n 0, 1) := by decide +kernel
theorem dX8_swap_40 : decode cX8_swap 40 = .ok (.getfield 71, 3) := by decide +kernel
theorem dX8_swap_43 : decode cX8_swap 43 = .ok (.ifCond .eq 20, 3) := by decide +kernel
theorem dX8_swap_46 : decode cX8_swap 46 = .ok (.aload_n 0, 1) := by decide +kernel
theorem dX8_swap_47 : decode cX8_swap 47 = .ok (.aload_n 0, 1) := by decide +kernel
theorem dX8_swap_48 : decode cX8_swap 48 = .ok (.getfield 23, 3) := by decide +kernel
theorem dX8_swap_51 : decode cX8_swap 51 = .ok (.invokevirtual 74, 3) := by decide +kernel
theorem dX8_swap_54 : decode cX8_swap 54 = .ok (.putfield 78, 3) := by decide +kernel
theorem dX8_swap_57 : decode cX8_swap 57 = .ok (.aload_n 0, 1) := by decide +kernel
theorem dX8_swap_58 : decode cX8_swap 58 = .ok (.iconst 4, 1) := by decide +kernel
theorem dX8_swap_59 : decode cX8_swap 59 = .ok (.invokevirtual 63, 3) := by decide +kernel
theorem dX8_swap_62 : decode cX8_swap 62 = .ok (.ireturn, 1) := by decide +kernel
theorem dX8_swap_63 : decode cX8_swap 63 = .ok (.aload_n 0, 1) := by decide +kernel
theorem dX8_swap_64 : decode cX8_swap 64 = .ok (.aload_n 0, 1) := by decide +kernel
theorem dX8_swap_65 : decode cX8_swap 65 = .ok (.getfield 23, 3) := by decide +kernel
theorem dX8_swap_68 : decode cX8_swap 68 = .ok (.aload_n 0, 1) := by decide +kernel
theorem dX8_swap_69 : decode cX8_swap 69 = .ok (.getfield 16, 3) := by decide +kernel
theorem dX8_swap_72 : decode cX8_swap 72 = .ok (.invokevirtual 81, 3) := by decide +kernel
theorem dX8_swap_75 : decode cX8_swap 75 = .ok (.putfield 16, 3) := by decide +kernel
theorem dX8_swap_78 : decode cX8_swap 78 = .ok (.aload_n 0, 1) := by decide +kernel
theorem dX8_swap_79 : decode cX8_swap 79 = .ok (.iconst 1, 1) := by decide +kernel
theorem dX8_swap_80 : decode cX8_swap 80 = .ok (.putfield 85, 3) := by decide +kernel
theorem dX8_swap_83 : decode cX8_swap 83 = .ok (.aload_n 0, 1) := by decide +kernel
theorem dX8_swap_84 : decode cX8_swap 84 = .ok (.getfield 37, 3) := by decide +kernel
theorem dX8_swap_87 : decode cX8_swap 87 = .ok (.aload_n 0, 1) := by decide +kernel
theorem dX8_swap_88 : decode cX8_swap 88 = .ok (.getfield 16, 3) := by decide +kernel
theorem dX8_swap_91 : decode cX8_swap 91 = .ok (.aload_n 0, 1) := by decide +kernel
theorem dX8_swap_92 : decode cX8_swap 92 = .ok (.getfield 30, 3) := by decide +kernel
theorem dX8_swap_95 : decode cX8_swap 95 = .ok (.invokevirtual 89, 3) := by decide +kernel
theorem dX8_swap_98 : decode cX8_swap 98 = .ok (.aload_n 0, 1) := by decide +kernel
theorem dX8_swap_99 : decode cX8_swap 99 = .ok (.getfield 51, 3) := by decide +kernel
theorem dX8_swap_102 : decode cX8_swap 102 = .ok (.invokevirtual 93, 3) := by decide +kernel
theorem dX8_swap_105 : decode cX8_swap 105 = .ok (.aload_n 0, 1) := by decide +kernel
theorem dX8_swap_106 : decode cX8_swap 106 = .ok (.aload_n 0, 1) := by decide +kernel
theorem dX8_swap_107 : decode cX8_swap 107 = .ok (.getfield 16, 3) := by decide +kernel
theorem dX8_swap_110 : decode cX8_swap 110 = .ok (.getfield 96, 3) := by decide +kernel
theorem dX8_swap_113 : decode cX8_swap 113 = .ok (.invokevirtual 99, 3) := by decide +kernel
theorem dX8_swap_116 : decode cX8_swap 116 = .ok (.ireturn, 1) := by decide +kernel
theorem dX8_fault_0 : decode cX8_fault 0 = .ok (.aload_n 0, 1) := by decide +kernel
theorem dX8_fault_1 : decode cX8_fault 1 = .ok (.getfield 71, 3) := by decide +kernel
theorem dX8_fault_4 : decode cX8_fault 4 = .ok (.ireturn, 1) := by decide +kernel
theorem dX8_where_0 : decode cX8_where 0 = .ok (.aload_n 0, 1) := by decide +kernel
theorem dX8_where_1 : decode cX8_where 1 = .ok (.getfield 102, 3) := by decide +kernel
theorem dX8_where_4 : decode cX8_where 4 = .ok (.iconst 4, 1) := by decide +kernel
theorem dX8_where_5 : decode cX8_where 5 = .ok (.if_icmp .ne 10, 3) := by decide +kernel
theorem dX8_where_8 : decode cX8_where 8 = .ok (.aload_n 0, 1) := by decide +kernel
theorem dX8_where_9 : decode cX8_where 9 = .ok (.getfield 78, 3) := by decide +kernel
theorem dX8_where_12 : decode cX8_where 12 = .ok (.goto 4, 3) := by decide +kernel
theorem dX8_where_15 : decode cX8_where 15 = .ok (.iconst (-1), 1) := by decide +kernel
theorem dX8_where_16 : decode cX8_where 16 = .ok (.ireturn, 1) := by decide +kernel
theorem dX8_about_0 : decode cX8_about 0 = .ok (.aload_n 0, 1) := by decide +kernel
theorem dX8_about_1 : decode cX8_about 1 = .ok (.getfield 85, 3) := by decide +kernel
theorem dX8_about_4 : decode cX8_about 4 = .ok (.ifCond .ne 9, 3) := by decide +kernel
theorem dX8_about_7 : decode cX8_about 7 = .ok (.aload_n 0, 1) := by decide +kernel
theorem dX8_about_8 : decode cX8_about 8 = .ok (.iconst 1, 1) := by decide +kernel
theorem dX8_about_9 : decode cX8_about 9 = .ok (.invokevirtual 63, 3) := by decide +kernel
theorem dX8_about_12 : decode cX8_about 12 = .ok (.ireturn, 1) := by decide +kernel
theorem dX8_about_13 : decode cX8_about 13 = .ok (.aload_n 0, 1) := by decide +kernel
theorem dX8_about_14 : decode cX8_about 14 = .ok (.getfield 37, 3) := by decide +kernel
theorem dX8_about_17 : decode cX8_about 17 = .ok (.getfield 105, 3) := by decide +kernel
theorem dX8_about_20 : decode cX8_about 20 = .ok (.astore_n 2, 1) := by decide +kernel
theorem dX8_about_21 : decode cX8_about 21 = .ok (.iload_n 1, 1) := by decide +kernel
theorem dX8_about_22 : decode cX8_about 22 = .ok (.tableswitch 171 0 10 #[58, 67, 76, 85, 97, 109, 121, 133, 142, 152, 162], 58) := by decide +kernel
theorem dX8_about_80 : decode cX8_about 80 = .ok (.aload_n 0, 1) := by decide +kernel
theorem dX8_about_81 : decode cX8_about 81 = .ok (.aload_n 2, 1) := by decide +kernel
theorem dX8_about_82 : decode cX8_about 82 = .ok (.getfield 108, 3) := by decide +kernel
theorem dX8_about_85 : decode cX8_about 85 = .ok (.invokevirtual 99, 3) := by decide +kernel
theorem dX8_about_88 : decode cX8_about 88 = .ok (.ireturn, 1) := by decide +kernel
theorem dX8_about_89 : decode cX8_about 89 = .ok (.aload_n 0, 1) := by decide +kernel
theorem dX8_about_90 : decode cX8_about 90 = .ok (.aload_n 2, 1) := by decide +kernel
theorem dX8_about_91 : decode cX8_about 91 = .ok (.getfield 111, 3) := by decide +kernel
theorem dX8_about_94 : decode cX8_about 94 = .ok (.invokevirtual 99, 3) := by decide +kernel
theorem dX8_about_97 : decode cX8_about 97 = .ok (.ireturn, 1) := by decide +kernel
theorem dX8_about_98 : decode cX8_about 98 = .ok (.aload_n 0, 1) := by decide +kernel
theorem dX8_about_99 : decode cX8_about 99 = .ok (.aload_n 2, 1) := by decide +kernel
theorem dX8_about_100 : decode cX8_about 100 = .ok (.getfield 114, 3) := by decide +kernel
theorem dX8_about_103 : decode cX8_about 103 = .ok (.invokevirtual 99, 3) := by decide +kernel
theorem dX8_about_106 : decode cX8_about 106 = .ok (.ireturn, 1) := by decide +kernel
theorem dX8_about_107 : decode cX8_about 107 = .ok (.aload_n 0, 1) := by decide +kernel
theorem dX8_about_108 : decode cX8_about 108 = .ok (.aload_n 0, 1) := by decide +kernel
theorem dX8_about_109 : decode cX8_about 109 = .ok (.getfield 16, 3) := by decide +kernel
theorem dX8_about_112 : decode cX8_about 112 = .ok (.getfield 96, 3) := by decide +kernel
theorem dX8_about_115 : decode cX8_about 115 = .ok (.invokevirtual 99, 3) := by decide +kernel
theorem dX8_about_118 : decode cX8_about 118 = .ok (.ireturn, 1) := by decide +kernel
theorem dX8_about_119 : decode cX8_about 119 = .ok (.aload_n 0, 1) := by decide +kernel
theorem dX8_about_120 : decode cX8_about 120 = .ok (.aload_n 0, 1) := by decide +kernel
theorem dX8_about_121 : decode cX8_about 121 = .ok (.getfield 16, 3) := by decide +kernel
theorem dX8_about_124 : decode cX8_about 124 = .ok (.getfield 117, 3) := by decide +kernel
theorem dX8_about_127 : decode cX8_about 127 = .ok (.invokevirtual 99, 3) := by decide +kernel
theorem dX8_about_130 : decode cX8_about 130 = .ok (.ireturn, 1) := by decide +kernel
theorem dX8_about_131 : decode cX8_about 131 = .ok (.aload_n 0, 1) := by decide +kernel
theorem dX8_about_132 : decode cX8_about 132 = .ok (.aload_n 2, 1) := by decide +kernel
theorem dX8_about_133 : decode cX8_about 133 = .ok (.getfield 120, 3) := by decide +kernel
theorem dX8_about_136 : decode cX8_about 136 = .ok (.getfield 124, 3) := by decide +kernel
theorem dX8_about_139 : decode cX8_about 139 = .ok (.invokevirtual 99, 3) := by decide +kernel
theorem dX8_about_142 : decode cX8_about 142 = .ok (.ireturn, 1) := by decide +kernel
theorem dX8_about_143 : decode cX8_about 143 = .ok (.aload_n 0, 1) := by decide +kernel
theorem dX8_about_144 : decode cX8_about 144 = .ok (.aload_n 2, 1) := by decide +kernel
theorem dX8_about_145 : decode cX8_about 145 = .ok (.getfield 120, 3) := by decide +kernel
theorem dX8_about_148 : decode cX8_about 148 = .ok (.invokevirtual 129, 3) := by decide +kernel
theorem dX8_about_151 : decode cX8_about 151 = .ok (.invokevirtual 99, 3) := by decide +kernel
theorem dX8_about_154 : decode cX8_about 154 = .ok (.ireturn, 1) := by decide +kernel
theorem dX8_about_155 : decode cX8_about 155 = .ok (.aload_n 0, 1) := by decide +kernel
theorem dX8_about_156 : decode cX8_about 156 = .ok (.aload_n 2, 1) := by decide +kernel
theorem dX8_about_157 : decode cX8_about 157 = .ok (.getfield 132, 3) := by decide +kernel
theorem dX8_about_160 : decode cX8_about 160 = .ok (.invokevirtual 99, 3) := by decide +kernel
theorem dX8_about_163 : decode cX8_about 163 = .ok (.ireturn, 1) := by decide +kernel
theorem dX8_about_164 : decode cX8_about 164 = .ok (.aload_n 0, 1) := by decide +kernel
theorem dX8_about_165 : decode cX8_about 165 = .ok (.aload_n 2, 1) := by decide +kernel
theorem dX8_about_166 : decode cX8_about 166 = .ok (.iconst 1, 1) := by decide +kernel
theorem dX8_about_167 : decode cX8_about 167 = .ok (.invokevirtual 135, 3) := by decide +kernel
theorem dX8_about_170 : decode cX8_about 170 = .ok (.invokevirtual 99, 3) := by decide +kernel
theorem dX8_about_173 : decode cX8_about 173 = .ok (.ireturn, 1) := by decide +kernel
theorem dX8_about_174 : decode cX8_about 174 = .ok (.aload_n 0, 1) := by decide +kernel
theorem dX8_about_175 : decode cX8_about 175 = .ok (.aload_n 2, 1) := by decide +kernel
theorem dX8_about_176 : decode cX8_about 176 = .ok (.iconst 3, 1) := by decide +kernel
theorem dX8_about_177 : decode cX8_about 177 = .ok (.invokevirtual 135, 3) := by decide +kernel
theorem dX8_about_180 : decode cX8_about 180 = .ok (.invokevirtual 99, 3) := by decide +kernel
theorem dX8_about_183 : decode cX8_about 183 = .ok (.ireturn, 1) := by decide +kernel
theorem dX8_about_184 : decode cX8_about 184 = .ok (.aload_n 0, 1) := by decide +kernel
theorem dX8_about_185 : decode cX8_about 185 = .ok (.aload_n 2, 1) := by decide +kernel
theorem dX8_about_186 : decode cX8_about 186 = .ok (.invokevirtual 138, 3) := by decide +kernel
theorem dX8_about_189 : decode cX8_about 189 = .ok (.invokevirtual 99, 3) := by decide +kernel
theorem dX8_about_192 : decode cX8_about 192 = .ok (.ireturn, 1) := by decide +kernel
theorem dX8_about_193 : decode cX8_about 193 = .ok (.aload_n 0, 1) := by decide +kernel
theorem dX8_about_194 : decode cX8_about 194 = .ok (.iconst 1, 1) := by decide +kernel
theorem dX8_about_195 : decode cX8_about 195 = .ok (.invokevirtual 63, 3) := by decide +kernel
theorem dX8_about_198 : decode cX8_about 198 = .ok (.ireturn, 1) := by decide +kernel
theorem dX8_cell_0 : decode cX8_cell 0 = .ok (.aload_n 0, 1) := by decide +kernel
theorem dX8_cell_1 : decode cX8_cell 1 = .ok (.iload_n 1, 1) := by decide +kernel
theorem dX8_cell_2 : decode cX8_cell 2 = .ok (.invokevirtual 141, 3) := by decide +kernel
theorem dX8_cell_5 : decode cX8_cell 5 = .ok (.ifCond .ne 10, 3) := by decide +kernel
theorem dX8_cell_8 : decode cX8_cell 8 = .ok (.iload_n 2, 1) := by decide +kernel
theorem dX8_cell_9 : decode cX8_cell 9 = .ok (.invokestatic 145, 3) := by decide +kernel
theorem dX8_cell_12 : decode cX8_cell 12 = .ok (.ifCond .eq 9, 3) := by decide +kernel
theorem dX8_cell_15 : decode cX8_cell 15 = .ok (.aload_n 0, 1) := by decide +kernel
theorem dX8_cell_16 : decode cX8_cell 16 = .ok (.iconst 1, 1) := by decide +kernel
theorem dX8_cell_17 : decode cX8_cell 17 = .ok (.invokevirtual 63, 3) := by decide +kernel
theorem dX8_cell_20 : decode cX8_cell 20 = .ok (.ireturn, 1) := by decide +kernel
theorem dX8_cell_21 : decode cX8_cell 21 = .ok (.aload_n 0, 1) := by decide +kernel
theorem dX8_cell_22 : decode cX8_cell 22 = .ok (.aload_n 0, 1) := by decide +kernel
theorem dX8_cell_23 : decode cX8_cell 23 = .ok (.getfield 37, 3) := by decide +kernel
theorem dX8_cell_26 : decode cX8_cell 26 = .ok (.getfield 148, 3) := by decide +kernel
theorem dX8_cell_29 : decode cX8_cell 29 = .ok (.iload_n 1, 1) := by decide +kernel
theorem dX8_cell_30 : decode cX8_cell 30 = .ok (.bipush 16, 2) := by decide +kernel
theorem dX8_cell_32 : decode cX8_cell 32 = .ok (.imul, 1) := by decide +kernel
theorem dX8_cell_33 : decode cX8_cell 33 = .ok (.iload_n 2, 1) := by decide +kernel
theorem dX8_cell_34 : decode cX8_cell 34 = .ok (.iadd, 1) := by decide +kernel
theorem dX8_cell_35 : decode cX8_cell 35 = .ok (.iaload, 1) := by decide +kernel
theorem dX8_cell_36 : decode cX8_cell 36 = .ok (.invokevirtual 99, 3) := by decide +kernel
theorem dX8_cell_39 : decode cX8_cell 39 = .ok (.ireturn, 1) := by decide +kernel
theorem dX8_squeezed_0 : decode cX8_squeezed 0 = .ok (.aload_n 0, 1) := by decide +kernel
theorem dX8_squeezed_1 : decode cX8_squeezed 1 = .ok (.iload_n 1, 1) := by decide +kernel
theorem dX8_squeezed_2 : decode cX8_squeezed 2 = .ok (.invokevirtual 141, 3) := by decide +kernel
theorem dX8_squeezed_5 : decode cX8_squeezed 5 = .ok (.ifCond .eq 9, 3) := by decide +kernel
theorem dX8_squeezed_8 : decode cX8_squeezed 8 = .ok (.aload_n 0, 1) := by decide +kernel
theorem dX8_squeezed_9 : decode cX8_squeezed 9 = .ok (.iconst 1, 1) := by decide +kernel
theorem dX8_squeezed_10 : decode cX8_squeezed 10 = .ok (.invokevirtual 63, 3) := by decide +kernel
theorem dX8_squeezed_13 : decode cX8_squeezed 13 = .ok (.ireturn, 1) := by decide +kernel
theorem dX8_squeezed_14 : decode cX8_squeezed 14 = .ok (.aload_n 0, 1) := by decide +kernel
theorem dX8_squeezed_15 : decode cX8_squeezed 15 = .ok (.aload_n 0, 1) := by decide +kernel
theorem dX8_squeezed_16 : decode cX8_squeezed 16 = .ok (.getfield 37, 3) := by decide +kernel
theorem dX8_squeezed_19 : decode cX8_squeezed 19 = .ok (.getfield 151, 3) := by decide +kernel
theorem dX8_squeezed_22 : decode cX8_squeezed 22 = .ok (.iload_n 1, 1) := by decide +kernel
theorem dX8_squeezed_23 : decode cX8_squeezed 23 = .ok (.iaload, 1) := by decide +kernel
theorem dX8_squeezed_24 : decode cX8_squeezed 24 = .ok (.invokevirtual 99, 3) := by decide +kernel
theorem dX8_squeezed_27 : decode cX8_squeezed 27 = .ok (.ireturn, 1) := by decide +kernel
theorem dX8_pieces_0 : decode cX8_pieces 0 = .ok (.aload_n 0, 1) := by decide +kernel
theorem dX8_pieces_1 : decode cX8_pieces 1 = .ok (.iload_n 1, 1) := by decide +kernel
theorem dX8_pieces_2 : decode cX8_pieces 2 = .ok (.invokevirtual 141, 3) := by decide +kernel
theorem dX8_pieces_5 : decode cX8_pieces 5 = .ok (.ifCond .eq 9, 3) := by decide +kernel
theorem dX8_pieces_8 : decode cX8_pieces 8 = .ok (.aload_n 0, 1) := by decide +kernel
theorem dX8_pieces_9 : decode cX8_pieces 9 = .ok (.iconst 1, 1) := by decide +kernel
theorem dX8_pieces_10 : decode cX8_pieces 10 = .ok (.invokevirtual 63, 3) := by decide +kernel
theorem dX8_pieces_13 : decode cX8_pieces 13 = .ok (.ireturn, 1) := by decide +kernel
theorem dX8_pieces_14 : decode cX8_pieces 14 = .ok (.aload_n 0, 1) := by decide +kernel
theorem dX8_pieces_15 : decode cX8_pieces 15 = .ok (.iload_n 1, 1) := by decide +kernel
theorem dX8_pieces_16 : decode cX8_pieces 16 = .ok (.invokevirtual 154, 3) := by decide +kernel
theorem dX8_pieces_19 : decode cX8_pieces 19 = .ok (.aload_n 0, 1) := by decide +kernel
theorem dX8_pieces_20 : decode cX8_pieces 20 = .ok (.aload_n 0, 1) := by decide +kernel
theorem dX8_pieces_21 : decode cX8_pieces 21 = .ok (.getfield 30, 3) := by decide +kernel
theorem dX8_pieces_24 : decode cX8_pieces 24 = .ok (.getfield 157, 3) := by decide +kernel
theorem dX8_pieces_27 : decode cX8_pieces 27 = .ok (.invokevirtual 99, 3) := by decide +kernel
theorem dX8_pieces_30 : decode cX8_pieces 30 = .ok (.ireturn, 1) := by decide +kernel
theorem dX8_piece_0 : decode cX8_piece 0 = .ok (.aload_n 0, 1) := by decide +kernel
theorem dX8_piece_1 : decode cX8_piece 1 = .ok (.iload_n 1, 1) := by decide +kernel
theorem dX8_piece_2 : decode cX8_piece 2 = .ok (.invokevirtual 141, 3) := by decide +kernel
theorem dX8_piece_5 : decode cX8_piece 5 = .ok (.ifCond .eq 9, 3) := by decide +kernel
theorem dX8_piece_8 : decode cX8_piece 8 = .ok (.aload_n 0, 1) := by decide +kernel
theorem dX8_piece_9 : decode cX8_piece 9 = .ok (.iconst 1, 1) := by decide +kernel
theorem dX8_piece_10 : decode cX8_piece 10 = .ok (.invokevirtual 63, 3) := by decide +kernel
theorem dX8_piece_13 : decode cX8_piece 13 = .ok (.ireturn, 1) := by decide +kernel
theorem dX8_piece_14 : decode cX8_piece 14 = .ok (.aload_n 0, 1) := by decide +kernel
theorem dX8_piece_15 : decode cX8_piece 15 = .ok (.iload_n 1, 1) := by decide +kernel
theorem dX8_piece_16 : decode cX8_piece 16 = .ok (.invokevirtual 154, 3) := by decide +kernel
theorem dX8_piece_19 : decode cX8_piece 19 = .ok (.iload_n 2, 1) := by decide +kernel
theorem dX8_piece_20 : decode cX8_piece 20 = .ok (.ifCond .lt 14, 3) := by decide +kernel
theorem dX8_piece_23 : decode cX8_piece 23 = .ok (.iload_n 2, 1) := by decide +kernel
theorem dX8_piece_24 : decode cX8_piece 24 = .ok (.aload_n 0, 1) := by decide +kernel
theorem dX8_piece_25 : decode cX8_piece 25 = .ok (.getfield 30, 3) := by decide +kernel
theorem dX8_piece_28 : decode cX8_piece 28 = .ok (.getfield 157, 3) := by decide +kernel
theorem dX8_piece_31 : decode cX8_piece 31 = .ok (.if_icmp .lt 9, 3) := by decide +kernel
theorem dX8_piece_34 : decode cX8_piece 34 = .ok (.aload_n 0, 1) := by decide +kernel
theorem dX8_piece_35 : decode cX8_piece 35 = .ok (.iconst 1, 1) := by decide +kernel
theorem dX8_piece_36 : decode cX8_piece 36 = .ok (.invokevirtual 63, 3) := by decide +kernel
theorem dX8_piece_39 : decode cX8_piece 39 = .ok (.ireturn, 1) := by decide +kernel
theorem dX8_piece_40 : decode cX8_piece 40 = .ok (.iload_n 3, 1) := by decide +kernel
theorem dX8_piece_41 : decode cX8_piece 41 = .ok (.tableswitch 87 0 3 #[31, 45, 59, 73], 31) := by decide +kernel
theorem dX8_piece_72 : decode cX8_piece 72 = .ok (.aload_n 0, 1) := by decide +kernel
theorem dX8_piece_73 : decode cX8_piece 73 = .ok (.aload_n 0, 1) := by decide +kernel
theorem dX8_piece_74 : decode cX8_piece 74 = .ok (.getfield 30, 3) := by decide +kernel
theorem dX8_piece_77 : decode cX8_piece 77 = .ok (.getfield 160, 3) := by decide +kernel
theorem dX8_piece_80 : decode cX8_piece 80 = .ok (.iload_n 2, 1) := by decide +kernel
theorem dX8_piece_81 : decode cX8_piece 81 = .ok (.iaload, 1) := by decide +kernel
theorem dX8_piece_82 : decode cX8_piece 82 = .ok (.invokevirtual 99, 3) := by decide +kernel
theorem dX8_piece_85 : decode cX8_piece 85 = .ok (.ireturn, 1) := by decide +kernel
theorem dX8_piece_86 : decode cX8_piece 86 = .ok (.aload_n 0, 1) := by decide +kernel
theorem dX8_piece_87 : decode cX8_piece 87 = .ok (.aload_n 0, 1) := by decide +kernel
theorem dX8_piece_88 : decode cX8_piece 88 = .ok (.getfield 30, 3) := by decide +kernel
theorem dX8_piece_91 : decode cX8_piece 91 = .ok (.getfield 163, 3) := by decide +kernel
theorem dX8_piece_94 : decode cX8_piece 94 = .ok (.iload_n 2, 1) := by decide +kernel
theorem dX8_piece_95 : decode cX8_piece 95 = .ok (.iaload, 1) := by decide +kernel
theorem dX8_piece_96 : decode cX8_piece 96 = .ok (.invokevirtual 99, 3) := by decide +kernel
theorem dX8_piece_99 : decode cX8_piece 99 = .ok (.ireturn, 1) := by decide +kernel
theorem dX8_piece_100 : decode cX8_piece 100 = .ok (.aload_n 0, 1) := by decide +kernel
theorem dX8_piece_101 : decode cX8_piece 101 = .ok (.aload_n 0, 1) := by decide +kernel
theorem dX8_piece_102 : decode cX8_piece 102 = .ok (.getfield 30, 3) := by decide +kernel
theorem dX8_piece_105 : decode cX8_piece 105 = .ok (.getfield 166, 3) := by decide +kernel
theorem dX8_piece_108 : decode cX8_piece 108 = .ok (.iload_n 2, 1) := by decide +kernel
theorem dX8_piece_109 : decode cX8_piece 109 = .ok (.iaload, 1) := by decide +kernel
theorem dX8_piece_110 : decode cX8_piece 110 = .ok (.invokevirtual 99, 3) := by decide +kernel
theorem dX8_piece_113 : decode cX8_piece 113 = .ok (.ireturn, 1) := by decide +kernel
theorem dX8_piece_114 : decode cX8_piece 114 = .ok (.aload_n 0, 1) := by decide +kernel
theorem dX8_piece_115 : decode cX8_piece 115 = .ok (.aload_n 0, 1) := by decide +kernel
theorem dX8_piece_116 : decode cX8_piece 116 = .ok (.getfield 30, 3) := by decide +kernel
theorem dX8_piece_119 : decode cX8_piece 119 = .ok (.getfield 169, 3) := by decide +kernel
theorem dX8_piece_122 : decode cX8_piece 122 = .ok (.iload_n 2, 1) := by decide +kernel
theorem dX8_piece_123 : decode cX8_piece 123 = .ok (.iaload, 1) := by decide +kernel
theorem dX8_piece_124 : decode cX8_piece 124 = .ok (.invokevirtual 99, 3) := by decide +kernel
theorem dX8_piece_127 : decode cX8_piece 127 = .ok (.ireturn, 1) := by decide +kernel
theorem dX8_piece_128 : decode cX8_piece 128 = .ok (.aload_n 0, 1) := by decide +kernel
theorem dX8_piece_129 : decode cX8_piece 129 = .ok (.iconst 1, 1) := by decide +kernel
theorem dX8_piece_130 : decode cX8_piece 130 = .ok (.invokevirtual 63, 3) := by decide +kernel
theorem dX8_piece_133 : decode cX8_piece 133 = .ok (.ireturn, 1) := by decide +kernel
theorem dX8_fewest_0 : decode cX8_fewest 0 = .ok (.aload_n 0, 1) := by decide +kernel
theorem dX8_fewest_1 : decode cX8_fewest 1 = .ok (.iload_n 1, 1) := by decide +kernel
theorem dX8_fewest_2 : decode cX8_fewest 2 = .ok (.invokevirtual 141, 3) := by decide +kernel
theorem dX8_fewest_5 : decode cX8_fewest 5 = .ok (.ifCond .eq 9, 3) := by decide +kernel
theorem dX8_fewest_8 : decode cX8_fewest 8 = .ok (.aload_n 0, 1) := by decide +kernel
theorem dX8_fewest_9 : decode cX8_fewest 9 = .ok (.iconst 1, 1) := by decide +kernel
theorem dX8_fewest_10 : decode cX8_fewest 10 = .ok (.invokevirtual 63, 3) := by decide +kernel
theorem dX8_fewest_13 : decode cX8_fewest 13 = .ok (.ireturn, 1) := by decide +kernel
theorem dX8_fewest_14 : decode cX8_fewest 14 = .ok (.aload_n 0, 1) := by decide +kernel
theorem dX8_fewest_15 : decode cX8_fewest 15 = .ok (.getfield 30, 3) := by decide +kernel
theorem dX8_fewest_18 : decode cX8_fewest 18 = .ok (.aload_n 0, 1) := by decide +kernel
theorem dX8_fewest_19 : decode cX8_fewest 19 = .ok (.getfield 37, 3) := by decide +kernel
theorem dX8_fewest_22 : decode cX8_fewest 22 = .ok (.getfield 148, 3) := by decide +kernel
theorem dX8_fewest_25 : decode cX8_fewest 25 = .ok (.iload_n 1, 1) := by decide +kernel
theorem dX8_fewest_26 : decode cX8_fewest 26 = .ok (.bipush 16, 2) := by decide +kernel
theorem dX8_fewest_28 : decode cX8_fewest 28 = .ok (.imul, 1) := by decide +kernel
theorem dX8_fewest_29 : decode cX8_fewest 29 = .ok (.invokevirtual 172, 3) := by decide +kernel
theorem dX8_fewest_32 : decode cX8_fewest 32 = .ok (.aload_n 0, 1) := by decide +kernel
theorem dX8_fewest_33 : decode cX8_fewest 33 = .ok (.aload_n 0, 1) := by decide +kernel
theorem dX8_fewest_34 : decode cX8_fewest 34 = .ok (.getfield 30, 3) := by decide +kernel
theorem dX8_fewest_37 : decode cX8_fewest 37 = .ok (.getfield 176, 3) := by decide +kernel
theorem dX8_fewest_40 : decode cX8_fewest 40 = .ok (.iconst 0, 1) := by decide +kernel
theorem dX8_fewest_41 : decode cX8_fewest 41 = .ok (.iaload, 1) := by decide +kernel
theorem dX8_fewest_42 : decode cX8_fewest 42 = .ok (.invokevirtual 99, 3) := by decide +kernel
theorem dX8_fewest_45 : decode cX8_fewest 45 = .ok (.ireturn, 1) := by decide +kernel
theorem dX8_rest_0 : decode cX8_rest 0 = .ok (.aload_n 0, 1) := by decide +kernel
theorem dX8_rest_1 : decode cX8_rest 1 = .ok (.iload_n 1, 1) := by decide +kernel
theorem dX8_rest_2 : decode cX8_rest 2 = .ok (.invokevirtual 141, 3) := by decide +kernel
theorem dX8_rest_5 : decode cX8_rest 5 = .ok (.ifCond .ne 10, 3) := by decide +kernel
theorem dX8_rest_8 : decode cX8_rest 8 = .ok (.iload_n 2, 1) := by decide +kernel
theorem dX8_rest_9 : decode cX8_rest 9 = .ok (.invokestatic 145, 3) := by decide +kernel
theorem dX8_rest_12 : decode cX8_rest 12 = .ok (.ifCond .eq 9, 3) := by decide +kernel
theorem dX8_rest_15 : decode cX8_rest 15 = .ok (.aload_n 0, 1) := by decide +kernel
theorem dX8_rest_16 : decode cX8_rest 16 = .ok (.iconst 1, 1) := by decide +kernel
theorem dX8_rest_17 : decode cX8_rest 17 = .ok (.invokevirtual 63, 3) := by decide +kernel
theorem dX8_rest_20 : decode cX8_rest 20 = .ok (.ireturn, 1) := by decide +kernel
theorem dX8_rest_21 : decode cX8_rest 21 = .ok (.aload_n 0, 1) := by decide +kernel
theorem dX8_rest_22 : decode cX8_rest 22 = .ok (.getfield 30, 3) := by decide +kernel
theorem dX8_rest_25 : decode cX8_rest 25 = .ok (.aload_n 0, 1) := by decide +kernel
theorem dX8_rest_26 : decode cX8_rest 26 = .ok (.getfield 37, 3) := by decide +kernel
theorem dX8_rest_29 : decode cX8_rest 29 = .ok (.getfield 148, 3) := by decide +kernel
theorem dX8_rest_32 : decode cX8_rest 32 = .ok (.iload_n 1, 1) := by decide +kernel
theorem dX8_rest_33 : decode cX8_rest 33 = .ok (.bipush 16, 2) := by decide +kernel
theorem dX8_rest_35 : decode cX8_rest 35 = .ok (.imul, 1) := by decide +kernel
theorem dX8_rest_36 : decode cX8_rest 36 = .ok (.invokevirtual 172, 3) := by decide +kernel
theorem dX8_rest_39 : decode cX8_rest 39 = .ok (.aload_n 0, 1) := by decide +kernel
theorem dX8_rest_40 : decode cX8_rest 40 = .ok (.aload_n 0, 1) := by decide +kernel
theorem dX8_rest_41 : decode cX8_rest 41 = .ok (.getfield 30, 3) := by decide +kernel
theorem dX8_rest_44 : decode cX8_rest 44 = .ok (.getfield 179, 3) := by decide +kernel
theorem dX8_rest_47 : decode cX8_rest 47 = .ok (.iload_n 2, 1) := by decide +kernel
theorem dX8_rest_48 : decode cX8_rest 48 = .ok (.iaload, 1) := by decide +kernel
theorem dX8_rest_49 : decode cX8_rest 49 = .ok (.invokevirtual 99, 3) := by decide +kernel
theorem dX8_rest_52 : decode cX8_rest 52 = .ok (.ireturn, 1) := by decide +kernel
theorem dX8_ranked_0 : decode cX8_ranked 0 = .ok (.aload_n 0, 1) := by decide +kernel
theorem dX8_ranked_1 : decode cX8_ranked 1 = .ok (.getfield 85, 3) := by decide +kernel
theorem dX8_ranked_4 : decode cX8_ranked 4 = .ok (.ifCond .ne 9, 3) := by decide +kernel
theorem dX8_ranked_7 : decode cX8_ranked 7 = .ok (.aload_n 0, 1) := by decide +kernel
theorem dX8_ranked_8 : decode cX8_ranked 8 = .ok (.iconst 1, 1) := by decide +kernel
theorem dX8_ranked_9 : decode cX8_ranked 9 = .ok (.invokevirtual 63, 3) := by decide +kernel
theorem dX8_ranked_12 : decode cX8_ranked 12 = .ok (.ireturn, 1) := by decide +kernel
theorem dX8_ranked_13 : decode cX8_ranked 13 = .ok (.iconst 0, 1) := by decide +kernel
theorem dX8_ranked_14 : decode cX8_ranked 14 = .ok (.istore_n 2, 1) := by decide +kernel
theorem dX8_ranked_15 : decode cX8_ranked 15 = .ok (.iload_n 2, 1) := by decide +kernel
theorem dX8_ranked_16 : decode cX8_ranked 16 = .ok (.aload_n 0, 1) := by decide +kernel
theorem dX8_ranked_17 : decode cX8_ranked 17 = .ok (.getfield 16, 3) := by decide +kernel
theorem dX8_ranked_20 : decode cX8_ranked 20 = .ok (.getfield 96, 3) := by decide +kernel
theorem dX8_ranked_23 : decode cX8_ranked 23 = .ok (.if_icmp .ge 24, 3) := by decide +kernel
theorem dX8_ranked_26 : decode cX8_ranked 26 = .ok (.aload_n 0, 1) := by decide +kernel
theorem dX8_ranked_27 : decode cX8_ranked 27 = .ok (.iload_n 2, 1) := by decide +kernel
theorem dX8_ranked_28 : decode cX8_ranked 28 = .ok (.invokevirtual 182, 3) := by decide +kernel
theorem dX8_ranked_31 : decode cX8_ranked 31 = .ok (.iload_n 1, 1) := by decide +kernel
theorem dX8_ranked_32 : decode cX8_ranked 32 = .ok (.if_icmp .ne 9, 3) := by decide +kernel
theorem dX8_ranked_35 : decode cX8_ranked 35 = .ok (.aload_n 0, 1) := by decide +kernel
theorem dX8_ranked_36 : decode cX8_ranked 36 = .ok (.iload_n 2, 1) := by decide +kernel
theorem dX8_ranked_37 : decode cX8_ranked 37 = .ok (.invokevirtual 99, 3) := by decide +kernel
theorem dX8_ranked_40 : decode cX8_ranked 40 = .ok (.ireturn, 1) := by decide +kernel
theorem dX8_ranked_41 : decode cX8_ranked 41 = .ok (.iinc 2 1, 3) := by decide +kernel
theorem dX8_ranked_44 : decode cX8_ranked 44 = .ok (.goto (-29), 3) := by decide +kernel
theorem dX8_ranked_47 : decode cX8_ranked 47 = .ok (.aload_n 0, 1) := by decide +kernel
theorem dX8_ranked_48 : decode cX8_ranked 48 = .ok (.iconst 1, 1) := by decide +kernel
theorem dX8_ranked_49 : decode cX8_ranked 49 = .ok (.invokevirtual 63, 3) := by decide +kernel
theorem dX8_ranked_52 : decode cX8_ranked 52 = .ok (.ireturn, 1) := by decide +kernel
theorem dX8_sort_0 : decode cX8_sort 0 = .ok (.aload_n 0, 1) := by decide +kernel
theorem dX8_sort_1 : decode cX8_sort 1 = .ok (.iload_n 1, 1) := by decide +kernel
theorem dX8_sort_2 : decode cX8_sort 2 = .ok (.invokevirtual 141, 3) := by decide +kernel
theorem dX8_sort_5 : decode cX8_sort 5 = .ok (.ifCond .eq 9, 3) := by decide +kernel
theorem dX8_sort_8 : decode cX8_sort 8 = .ok (.aload_n 0, 1) := by decide +kernel
theorem dX8_sort_9 : decode cX8_sort 9 = .ok (.iconst 1, 1) := by decide +kernel
theorem dX8_sort_10 : decode cX8_sort 10 = .ok (.invokevirtual 63, 3) := by decide +kernel
theorem dX8_sort_13 : decode cX8_sort 13 = .ok (.ireturn, 1) := by decide +kernel
theorem dX8_sort_14 : decode cX8_sort 14 = .ok (.aload_n 0, 1) := by decide +kernel
theorem dX8_sort_15 : decode cX8_sort 15 = .ok (.getfield 37, 3) := by decide +kernel
theorem dX8_sort_18 : decode cX8_sort 18 = .ok (.getfield 151, 3) := by decide +kernel
theorem dX8_sort_21 : decode cX8_sort 21 = .ok (.iload_n 1, 1) := by decide +kernel
theorem dX8_sort_22 : decode cX8_sort 22 = .ok (.iaload, 1) := by decide +kernel
theorem dX8_sort_23 : decode cX8_sort 23 = .ok (.istore_n 2, 1) := by decide +kernel
theorem dX8_sort_24 : decode cX8_sort 24 = .ok (.iload_n 2, 1) := by decide +kernel
theorem dX8_sort_25 : decode cX8_sort 25 = .ok (.invokestatic 185, 3) := by decide +kernel
theorem dX8_sort_28 : decode cX8_sort 28 = .ok (.ifCond .eq 9, 3) := by decide +kernel
theorem dX8_sort_31 : decode cX8_sort 31 = .ok (.aload_n 0, 1) := by decide +kernel
theorem dX8_sort_32 : decode cX8_sort 32 = .ok (.iconst 1, 1) := by decide +kernel
theorem dX8_sort_33 : decode cX8_sort 33 = .ok (.invokevirtual 99, 3) := by decide +kernel
theorem dX8_sort_36 : decode cX8_sort 36 = .ok (.ireturn, 1) := by decide +kernel
theorem dX8_sort_37 : decode cX8_sort 37 = .ok (.aload_n 0, 1) := by decide +kernel
theorem dX8_sort_38 : decode cX8_sort 38 = .ok (.iload_n 2, 1) := by decide +kernel
theorem dX8_sort_39 : decode cX8_sort 39 = .ok (.aload_n 0, 1) := by decide +kernel
theorem dX8_sort_40 : decode cX8_sort 40 = .ok (.getfield 37, 3) := by decide +kernel
theorem dX8_sort_43 : decode cX8_sort 43 = .ok (.getfield 105, 3) := by decide +kernel
theorem dX8_sort_46 : decode cX8_sort 46 = .ok (.getfield 114, 3) := by decide +kernel
theorem dX8_sort_49 : decode cX8_sort 49 = .ok (.if_icmp .le 7, 3) := by decide +kernel
theorem dX8_sort_52 : decode cX8_sort 52 = .ok (.iconst 2, 1) := by decide +kernel
theorem dX8_sort_53 : decode cX8_sort 53 = .ok (.goto 4, 3) := by decide +kernel
theorem dX8_sort_56 : decode cX8_sort 56 = .ok (.iconst 0, 1) := by decide +kernel
theorem dX8_sort_57 : decode cX8_sort 57 = .ok (.invokevirtual 99, 3) := by decide +kernel
theorem dX8_sort_60 : decode cX8_sort 60 = .ok (.ireturn, 1) := by decide +kernel
theorem dX8_home_0 : decode cX8_home 0 = .ok (.aload_n 0, 1) := by decide +kernel
theorem dX8_home_1 : decode cX8_home 1 = .ok (.getfield 85, 3) := by decide +kernel
theorem dX8_home_4 : decode cX8_home 4 = .ok (.ifCond .ne 9, 3) := by decide +kernel
theorem dX8_home_7 : decode cX8_home 7 = .ok (.aload_n 0, 1) := by decide +kernel
theorem dX8_home_8 : decode cX8_home 8 = .ok (.iconst 1, 1) := by decide +kernel
theorem dX8_home_9 : decode cX8_home 9 = .ok (.invokevirtual 63, 3) := by decide +kernel
theorem dX8_home_12 : decode cX8_home 12 = .ok (.ireturn, 1) := by decide +kernel
theorem dX8_home_13 : decode cX8_home 13 = .ok (.iload_n 1, 1) := by decide +kernel
theorem dX8_home_14 : decode cX8_home 14 = .ok (.invokestatic 188, 3) := by decide +kernel
theorem dX8_home_17 : decode cX8_home 17 = .ok (.ifCond .eq 9, 3) := by decide +kernel
theorem dX8_home_20 : decode cX8_home 20 = .ok (.aload_n 0, 1) := by decide +kernel
theorem dX8_home_21 : decode cX8_home 21 = .ok (.iconst 2, 1) := by decide +kernel
theorem dX8_home_22 : decode cX8_home 22 = .ok (.invokevirtual 63, 3) := by decide +kernel
theorem dX8_home_25 : decode cX8_home 25 = .ok (.ireturn, 1) := by decide +kernel
theorem dX8_home_26 : decode cX8_home 26 = .ok (.aload_n 0, 1) := by decide +kernel
theorem dX8_home_27 : decode cX8_home 27 = .ok (.iload_n 1, 1) := by decide +kernel
theorem dX8_home_28 : decode cX8_home 28 = .ok (.aload_n 0, 1) := by decide +kernel
theorem dX8_home_29 : decode cX8_home 29 = .ok (.getfield 37, 3) := by decide +kernel
theorem dX8_home_32 : decode cX8_home 32 = .ok (.getfield 105, 3) := by decide +kernel
theorem dX8_home_35 : decode cX8_home 35 = .ok (.getfield 111, 3) := by decide +kernel
theorem dX8_home_38 : decode cX8_home 38 = .ok (.invokestatic 191, 3) := by decide +kernel
theorem dX8_home_41 : decode cX8_home 41 = .ok (.invokevirtual 99, 3) := by decide +kernel
theorem dX8_home_44 : decode cX8_home 44 = .ok (.ireturn, 1) := by decide +kernel
theorem dX8_sizes_0 : decode cX8_sizes 0 = .ok (.aload_n 0, 1) := by decide +kernel
theorem dX8_sizes_1 : decode cX8_sizes 1 = .ok (.iload_n 1, 1) := by decide +kernel
theorem dX8_sizes_2 : decode cX8_sizes 2 = .ok (.invokevirtual 197, 3) := by decide +kernel
theorem dX8_sizes_5 : decode cX8_sizes 5 = .ok (.ifCond .eq 9, 3) := by decide +kernel
theorem dX8_sizes_8 : decode cX8_sizes 8 = .ok (.aload_n 0, 1) := by decide +kernel
theorem dX8_sizes_9 : decode cX8_sizes 9 = .ok (.iconst 1, 1) := by decide +kernel
theorem dX8_sizes_10 : decode cX8_sizes 10 = .ok (.invokevirtual 63, 3) := by decide +kernel
theorem dX8_sizes_13 : decode cX8_sizes 13 = .ok (.ireturn, 1) := by decide +kernel
theorem dX8_sizes_14 : decode cX8_sizes 14 = .ok (.iload_n 2, 1) := by decide +kernel
theorem dX8_sizes_15 : decode cX8_sizes 15 = .ok (.tableswitch 98 0 4 #[33, 42, 51, 60, 79], 33) := by decide +kernel
theorem dX8_sizes_48 : decode cX8_sizes 48 = .ok (.aload_n 0, 1) := by decide +kernel
theorem dX8_sizes_49 : decode cX8_sizes 49 = .ok (.iload_n 1, 1) := by decide +kernel
theorem dX8_sizes_50 : decode cX8_sizes 50 = .ok (.invokestatic 200, 3) := by decide +kernel
theorem dX8_sizes_53 : decode cX8_sizes 53 = .ok (.invokevirtual 99, 3) := by decide +kernel
theorem dX8_sizes_56 : decode cX8_sizes 56 = .ok (.ireturn, 1) := by decide +kernel
theorem dX8_sizes_57 : decode cX8_sizes 57 = .ok (.aload_n 0, 1) := by decide +kernel
theorem dX8_sizes_58 : decode cX8_sizes 58 = .ok (.iload_n 1, 1) := by decide +kernel
theorem dX8_sizes_59 : decode cX8_sizes 59 = .ok (.invokestatic 203, 3) := by decide +kernel
theorem dX8_sizes_62 : decode cX8_sizes 62 = .ok (.invokevirtual 99, 3) := by decide +kernel
theorem dX8_sizes_65 : decode cX8_sizes 65 = .ok (.ireturn, 1) := by decide +kernel
theorem dX8_sizes_66 : decode cX8_sizes 66 = .ok (.aload_n 0, 1) := by decide +kernel
theorem dX8_sizes_67 : decode cX8_sizes 67 = .ok (.iload_n 1, 1) := by decide +kernel
theorem dX8_sizes_68 : decode cX8_sizes 68 = .ok (.invokestatic 206, 3) := by decide +kernel
theorem dX8_sizes_71 : decode cX8_sizes 71 = .ok (.invokevirtual 99, 3) := by decide +kernel
theorem dX8_sizes_74 : decode cX8_sizes 74 = .ok (.ireturn, 1) := by decide +kernel
theorem dX8_sizes_75 : decode cX8_sizes 75 = .ok (.aload_n 0, 1) := by decide +kernel
theorem dX8_sizes_76 : decode cX8_sizes 76 = .ok (.aload_n 0, 1) := by decide +kernel
theorem dX8_sizes_77 : decode cX8_sizes 77 = .ok (.getfield 37, 3) := by decide +kernel
theorem dX8_sizes_80 : decode cX8_sizes 80 = .ok (.getfield 105, 3) := by decide +kernel
theorem dX8_sizes_83 : decode cX8_sizes 83 = .ok (.getfield 120, 3) := by decide +kernel
theorem dX8_sizes_86 : decode cX8_sizes 86 = .ok (.iload_n 1, 1) := by decide +kernel
theorem dX8_sizes_87 : decode cX8_sizes 87 = .ok (.invokevirtual 209, 3) := by decide +kernel
theorem dX8_sizes_90 : decode cX8_sizes 90 = .ok (.invokevirtual 99, 3) := by decide +kernel
theorem dX8_sizes_93 : decode cX8_sizes 93 = .ok (.ireturn, 1) := by decide +kernel
theorem dX8_sizes_94 : decode cX8_sizes 94 = .ok (.aload_n 0, 1) := by decide +kernel
theorem dX8_sizes_95 : decode cX8_sizes 95 = .ok (.aload_n 0, 1) := by decide +kernel
theorem dX8_sizes_96 : decode cX8_sizes 96 = .ok (.getfield 37, 3) := by decide +kernel
theorem dX8_sizes_99 : decode cX8_sizes 99 = .ok (.getfield 105, 3) := by decide +kernel
theorem dX8_sizes_102 : decode cX8_sizes 102 = .ok (.getfield 120, 3) := by decide +kernel
theorem dX8_sizes_105 : decode cX8_sizes 105 = .ok (.iload_n 1, 1) := by decide +kernel
theorem dX8_sizes_106 : decode cX8_sizes 106 = .ok (.invokevirtual 212, 3) := by decide +kernel
theorem dX8_sizes_109 : decode cX8_sizes 109 = .ok (.invokevirtual 99, 3) := by decide +kernel
theorem dX8_sizes_112 : decode cX8_sizes 112 = .ok (.ireturn, 1) := by decide +kernel
theorem dX8_sizes_113 : decode cX8_sizes 113 = .ok (.aload_n 0, 1) := by decide +kernel
theorem dX8_sizes_114 : decode cX8_sizes 114 = .ok (.iconst 1, 1) := by decide +kernel
theorem dX8_sizes_115 : decode cX8_sizes 115 = .ok (.invokevirtual 63, 3) := by decide +kernel
theorem dX8_sizes_118 : decode cX8_sizes 118 = .ok (.ireturn, 1) := by decide +kernel
theorem dX8_gain_0 : decode cX8_gain 0 = .ok (.aload_n 0, 1) := by decide +kernel
theorem dX8_gain_1 : decode cX8_gain 1 = .ok (.getfield 85, 3) := by decide +kernel
theorem dX8_gain_4 : decode cX8_gain 4 = .ok (.ifCond .ne 9, 3) := by decide +kernel
theorem dX8_gain_7 : decode cX8_gain 7 = .ok (.aload_n 0, 1) := by decide +kernel
theorem dX8_gain_8 : decode cX8_gain 8 = .ok (.iconst 1, 1) := by decide +kernel
theorem dX8_gain_9 : decode cX8_gain 9 = .ok (.invokevirtual 63, 3) := by decide +kernel
theorem dX8_gain_12 : decode cX8_gain 12 = .ok (.ireturn, 1) := by decide +kernel
theorem dX8_gain_13 : decode cX8_gain 13 = .ok (.aload_n 0, 1) := by decide +kernel
theorem dX8_gain_14 : decode cX8_gain 14 = .ok (.getfield 44, 3) := by decide +kernel
theorem dX8_gain_17 : decode cX8_gain 17 = .ok (.aload_n 0, 1) := by decide +kernel
theorem dX8_gain_18 : decode cX8_gain 18 = .ok (.getfield 37, 3) := by decide +kernel
theorem dX8_gain_21 : decode cX8_gain 21 = .ok (.getfield 105, 3) := by decide +kernel
theorem dX8_gain_24 : decode cX8_gain 24 = .ok (.invokevirtual 215, 3) := by decide +kernel
theorem dX8_gain_27 : decode cX8_gain 27 = .ok (.aload_n 0, 1) := by decide +kernel
theorem dX8_gain_28 : decode cX8_gain 28 = .ok (.aload_n 0, 1) := by decide +kernel
theorem dX8_gain_29 : decode cX8_gain 29 = .ok (.getfield 44, 3) := by decide +kernel
theorem dX8_gain_32 : decode cX8_gain 32 = .ok (.invokevirtual 219, 3) := by decide +kernel
theorem dX8_gain_35 : decode cX8_gain 35 = .ok (.invokevirtual 99, 3) := by decide +kernel
theorem dX8_gain_38 : decode cX8_gain 38 = .ok (.ireturn, 1) := by decide +kernel
theorem dX8_next_0 : decode cX8_next 0 = .ok (.aload_n 0, 1) := by decide +kernel
theorem dX8_next_1 : decode cX8_next 1 = .ok (.getfield 85, 3) := by decide +kernel
theorem dX8_next_4 : decode cX8_next 4 = .ok (.ifCond .ne 9, 3) := by decide +kernel
theorem dX8_next_7 : decode cX8_next 7 = .ok (.aload_n 0, 1) := by decide +kernel
theorem dX8_next_8 : decode cX8_next 8 = .ok (.iconst 1, 1) := by decide +kernel
theorem dX8_next_9 : decode cX8_next 9 = .ok (.invokevirtual 63, 3) := by decide +kernel
theorem dX8_next_12 : decode cX8_next 12 = .ok (.ireturn, 1) := by decide +kernel
theorem dX8_next_13 : decode cX8_next 13 = .ok (.iload_n 1, 1) := by decide +kernel
theorem dX8_next_14 : decode cX8_next 14 = .ok (.invokestatic 188, 3) := by decide +kernel
theorem dX8_next_17 : decode cX8_next 17 = .ok (.ifCond .eq 9, 3) := by decide +kernel
theorem dX8_next_20 : decode cX8_next 20 = .ok (.aload_n 0, 1) := by decide +kernel
theorem dX8_next_21 : decode cX8_next 21 = .ok (.iconst 2, 1) := by decide +kernel
theorem dX8_next_22 : decode cX8_next 22 = .ok (.invokevirtual 63, 3) := by decide +kernel
theorem dX8_next_25 : decode cX8_next 25 = .ok (.ireturn, 1) := by decide +kernel
theorem dX8_next_26 : decode cX8_next 26 = .ok (.aload_n 0, 1) := by decide +kernel
theorem dX8_next_27 : decode cX8_next 27 = .ok (.aload_n 0, 1) := by decide +kernel
theorem dX8_next_28 : decode cX8_next 28 = .ok (.getfield 37, 3) := by decide +kernel
theorem dX8_next_31 : decode cX8_next 31 = .ok (.getfield 105, 3) := by decide +kernel
theorem dX8_next_34 : decode cX8_next 34 = .ok (.iload_n 1, 1) := by decide +kernel
theorem dX8_next_35 : decode cX8_next 35 = .ok (.aload_n 0, 1) := by decide +kernel
theorem dX8_next_36 : decode cX8_next 36 = .ok (.getfield 37, 3) := by decide +kernel
theorem dX8_next_39 : decode cX8_next 39 = .ok (.getfield 105, 3) := by decide +kernel
theorem dX8_next_42 : decode cX8_next 42 = .ok (.getfield 111, 3) := by decide +kernel
theorem dX8_next_45 : decode cX8_next 45 = .ok (.invokestatic 191, 3) := by decide +kernel
theorem dX8_next_48 : decode cX8_next 48 = .ok (.invokevirtual 222, 3) := by decide +kernel
theorem dX8_next_51 : decode cX8_next 51 = .ok (.invokevirtual 99, 3) := by decide +kernel
theorem dX8_next_54 : decode cX8_next 54 = .ok (.ireturn, 1) := by decide +kernel
theorem dX8_coldest_0 : decode cX8_coldest 0 = .ok (.aload_n 0, 1) := by decide +kernel
theorem dX8_coldest_1 : decode cX8_coldest 1 = .ok (.iload_n 1, 1) := by decide +kernel
theorem dX8_coldest_2 : decode cX8_coldest 2 = .ok (.invokevirtual 197, 3) := by decide +kernel
theorem dX8_coldest_5 : decode cX8_coldest 5 = .ok (.ifCond .eq 9, 3) := by decide +kernel
theorem dX8_coldest_8 : decode cX8_coldest 8 = .ok (.aload_n 0, 1) := by decide +kernel
theorem dX8_coldest_9 : decode cX8_coldest 9 = .ok (.iconst 1, 1) := by decide +kernel
theorem dX8_coldest_10 : decode cX8_coldest 10 = .ok (.invokevirtual 63, 3) := by decide +kernel
theorem dX8_coldest_13 : decode cX8_coldest 13 = .ok (.ireturn, 1) := by decide +kernel
theorem dX8_coldest_14 : decode cX8_coldest 14 = .ok (.aload_n 0, 1) := by decide +kernel
theorem dX8_coldest_15 : decode cX8_coldest 15 = .ok (.aload_n 0, 1) := by decide +kernel
theorem dX8_coldest_16 : decode cX8_coldest 16 = .ok (.getfield 37, 3) := by decide +kernel
theorem dX8_coldest_19 : decode cX8_coldest 19 = .ok (.getfield 105, 3) := by decide +kernel
theorem dX8_coldest_22 : decode cX8_coldest 22 = .ok (.iload_n 1, 1) := by decide +kernel
theorem dX8_coldest_23 : decode cX8_coldest 23 = .ok (.invokevirtual 225, 3) := by decide +kernel
theorem dX8_coldest_26 : decode cX8_coldest 26 = .ok (.invokevirtual 99, 3) := by decide +kernel
theorem dX8_coldest_29 : decode cX8_coldest 29 = .ok (.ireturn, 1) := by decide +kernel
theorem dX8_fittest_0 : decode cX8_fittest 0 = .ok (.aload_n 0, 1) := by decide +kernel
theorem dX8_fittest_1 : decode cX8_fittest 1 = .ok (.getfield 85, 3) := by decide +kernel
theorem dX8_fittest_4 : decode cX8_fittest 4 = .ok (.ifCond .ne 9, 3) := by decide +kernel
theorem dX8_fittest_7 : decode cX8_fittest 7 = .ok (.aload_n 0, 1) := by decide +kernel
theorem dX8_fittest_8 : decode cX8_fittest 8 = .ok (.iconst 1, 1) := by decide +kernel
theorem dX8_fittest_9 : decode cX8_fittest 9 = .ok (.invokevirtual 63, 3) := by decide +kernel
theorem dX8_fittest_12 : decode cX8_fittest 12 = .ok (.ireturn, 1) := by decide +kernel
theorem dX8_fittest_13 : decode cX8_fittest 13 = .ok (.iconst 1, 1) := by decide +kernel
theorem dX8_fittest_14 : decode cX8_fittest 14 = .ok (.istore_n 1, 1) := by decide +kernel
theorem dX8_fittest_15 : decode cX8_fittest 15 = .ok (.iconst 2, 1) := by decide +kernel
theorem dX8_fittest_16 : decode cX8_fittest 16 = .ok (.istore_n 2, 1) := by decide +kernel
theorem dX8_fittest_17 : decode cX8_fittest 17 = .ok (.iload_n 2, 1) := by decide +kernel
theorem dX8_fittest_18 : decode cX8_fittest 18 = .ok (.iconst 4, 1) := by decide +kernel
theorem dX8_fittest_19 : decode cX8_fittest 19 = .ok (.if_icmp .gt 36, 3) := by decide +kernel
theorem dX8_fittest_22 : decode cX8_fittest 22 = .ok (.aload_n 0, 1) := by decide +kernel
theorem dX8_fittest_23 : decode cX8_fittest 23 = .ok (.getfield 37, 3) := by decide +kernel
theorem dX8_fittest_26 : decode cX8_fittest 26 = .ok (.getfield 105, 3) := by decide +kernel
theorem dX8_fittest_29 : decode cX8_fittest 29 = .ok (.iload_n 2, 1) := by decide +kernel
theorem dX8_fittest_30 : decode cX8_fittest 30 = .ok (.invokevirtual 228, 3) := by decide +kernel
theorem dX8_fittest_33 : decode cX8_fittest 33 = .ok (.aload_n 0, 1) := by decide +kernel
theorem dX8_fittest_34 : decode cX8_fittest 34 = .ok (.getfield 37, 3) := by decide +kernel
theorem dX8_fittest_37 : decode cX8_fittest 37 = .ok (.getfield 105, 3) := by decide +kernel
theorem dX8_fittest_40 : decode cX8_fittest 40 = .ok (.iload_n 1, 1) := by decide +kernel
theorem dX8_fittest_41 : decode cX8_fittest 41 = .ok (.invokevirtual 228, 3) := by decide +kernel
theorem dX8_fittest_44 : decode cX8_fittest 44 = .ok (.if_icmp .ge 5, 3) := by decide +kernel
theorem dX8_fittest_47 : decode cX8_fittest 47 = .ok (.iload_n 2, 1) := by decide +kernel
theorem dX8_fittest_48 : decode cX8_fittest 48 = .ok (.istore_n 1, 1) := by decide +kernel
theorem dX8_fittest_49 : decode cX8_fittest 49 = .ok (.iinc 2 1, 3) := by decide +kernel
theorem dX8_fittest_52 : decode cX8_fittest 52 = .ok (.goto (-35), 3) := by decide +kernel
theorem dX8_fittest_55 : decode cX8_fittest 55 = .ok (.aload_n 0, 1) := by decide +kernel
theorem dX8_fittest_56 : decode cX8_fittest 56 = .ok (.iload_n 1, 1) := by decide +kernel
theorem dX8_fittest_57 : decode cX8_fittest 57 = .ok (.invokevirtual 99, 3) := by decide +kernel
theorem dX8_fittest_60 : decode cX8_fittest 60 = .ok (.ireturn, 1) := by decide +kernel
theorem dX8_zone_0 : decode cX8_zone 0 = .ok (.aload_n 0, 1) := by decide +kernel
theorem dX8_zone_1 : decode cX8_zone 1 = .ok (.iload_n 1, 1) := by decide +kernel
theorem dX8_zone_2 : decode cX8_zone 2 = .ok (.invokevirtual 231, 3) := by decide +kernel
theorem dX8_zone_5 : decode cX8_zone 5 = .ok (.ifCond .eq 9, 3) := by decide +kernel
theorem dX8_zone_8 : decode cX8_zone 8 = .ok (.aload_n 0, 1) := by decide +kernel
theorem dX8_zone_9 : decode cX8_zone 9 = .ok (.iconst 1, 1) := by decide +kernel
theorem dX8_zone_10 : decode cX8_zone 10 = .ok (.invokevirtual 63, 3) := by decide +kernel
theorem dX8_zone_13 : decode cX8_zone 13 = .ok (.ireturn, 1) := by decide +kernel
theorem dX8_zone_14 : decode cX8_zone 14 = .ok (.aload_n 0, 1) := by decide +kernel
theorem dX8_zone_15 : decode cX8_zone 15 = .ok (.getfield 37, 3) := by decide +kernel
theorem dX8_zone_18 : decode cX8_zone 18 = .ok (.getfield 105, 3) := by decide +kernel
theorem dX8_zone_21 : decode cX8_zone 21 = .ok (.getfield 120, 3) := by decide +kernel
theorem dX8_zone_24 : decode cX8_zone 24 = .ok (.astore_n 3, 1) := by decide +kernel
theorem dX8_zone_25 : decode cX8_zone 25 = .ok (.iload_n 2, 1) := by decide +kernel
theorem dX8_zone_26 : decode cX8_zone 26 = .ok (.tableswitch 59 0 2 #[26, 37, 48], 26) := by decide +kernel
theorem dX8_zone_52 : decode cX8_zone 52 = .ok (.aload_n 0, 1) := by decide +kernel
theorem dX8_zone_53 : decode cX8_zone 53 = .ok (.aload_n 3, 1) := by decide +kernel
theorem dX8_zone_54 : decode cX8_zone 54 = .ok (.getfield 234, 3) := by decide +kernel
theorem dX8_zone_57 : decode cX8_zone 57 = .ok (.iload_n 1, 1) := by decide +kernel
theorem dX8_zone_58 : decode cX8_zone 58 = .ok (.iaload, 1) := by decide +kernel
theorem dX8_zone_59 : decode cX8_zone 59 = .ok (.invokevirtual 99, 3) := by decide +kernel
theorem dX8_zone_62 : decode cX8_zone 62 = .ok (.ireturn, 1) := by decide +kernel
theorem dX8_zone_63 : decode cX8_zone 63 = .ok (.aload_n 0, 1) := by decide +kernel
theorem dX8_zone_64 : decode cX8_zone 64 = .ok (.aload_n 3, 1) := by decide +kernel
theorem dX8_zone_65 : decode cX8_zone 65 = .ok (.getfield 237, 3) := by decide +kernel
theorem dX8_zone_68 : decode cX8_zone 68 = .ok (.iload_n 1, 1) := by decide +kernel
theorem dX8_zone_69 : decode cX8_zone 69 = .ok (.iaload, 1) := by decide +kernel
theorem dX8_zone_70 : decode cX8_zone 70 = .ok (.invokevirtual 99, 3) := by decide +kernel
theorem dX8_zone_73 : decode cX8_zone 73 = .ok (.ireturn, 1) := by decide +kernel
theorem dX8_zone_74 : decode cX8_zone 74 = .ok (.aload_n 0, 1) := by decide +kernel
theorem dX8_zone_75 : decode cX8_zone 75 = .ok (.aload_n 3, 1) := by decide +kernel
theorem dX8_zone_76 : decode cX8_zone 76 = .ok (.getfield 240, 3) := by decide +kernel
theorem dX8_zone_79 : decode cX8_zone 79 = .ok (.iload_n 1, 1) := by decide +kernel
theorem dX8_zone_80 : decode cX8_zone 80 = .ok (.iaload, 1) := by decide +kernel
theorem dX8_zone_81 : decode cX8_zone 81 = .ok (.invokevirtual 99, 3) := by decide +kernel
theorem dX8_zone_84 : decode cX8_zone 84 = .ok (.ireturn, 1) := by decide +kernel
theorem dX8_zone_85 : decode cX8_zone 85 = .ok (.aload_n 0, 1) := by decide +kernel
theorem dX8_zone_86 : decode cX8_zone 86 = .ok (.iconst 1, 1) := by decide +kernel
theorem dX8_zone_87 : decode cX8_zone 87 = .ok (.invokevirtual 63, 3) := by decide +kernel
theorem dX8_zone_90 : decode cX8_zone 90 = .ok (.ireturn, 1) := by decide +kernel
theorem dX8_slot_0 : decode cX8_slot 0 = .ok (.aload_n 0, 1) := by decide +kernel
theorem dX8_slot_1 : decode cX8_slot 1 = .ok (.iload_n 1, 1) := by decide +kernel
theorem dX8_slot_2 : decode cX8_slot 2 = .ok (.invokevirtual 231, 3) := by decide +kernel
theorem dX8_slot_5 : decode cX8_slot 5 = .ok (.ifCond .ne 32, 3) := by decide +kernel
theorem dX8_slot_8 : decode cX8_slot 8 = .ok (.iload_n 2, 1) := by decide +kernel
theorem dX8_slot_9 : decode cX8_slot 9 = .ok (.ifCond .lt 28, 3) := by decide +kernel
theorem dX8_slot_12 : decode cX8_slot 12 = .ok (.iload_n 2, 1) := by decide +kernel
theorem dX8_slot_13 : decode cX8_slot 13 = .ok (.aload_n 0, 1) := by decide +kernel
theorem dX8_slot_14 : decode cX8_slot 14 = .ok (.getfield 37, 3) := by decide +kernel
theorem dX8_slot_17 : decode cX8_slot 17 = .ok (.getfield 105, 3) := by decide +kernel
theorem dX8_slot_20 : decode cX8_slot 20 = .ok (.getfield 120, 3) := by decide +kernel
theorem dX8_slot_23 : decode cX8_slot 23 = .ok (.getfield 241, 3) := by decide +kernel
theorem dX8_slot_26 : decode cX8_slot 26 = .ok (.iload_n 1, 1) := by decide +kernel
theorem dX8_slot_27 : decode cX8_slot 27 = .ok (.iaload, 1) := by decide +kernel
theorem dX8_slot_28 : decode cX8_slot 28 = .ok (.if_icmp .ge 9, 3) := by decide +kernel
theorem dX8_slot_31 : decode cX8_slot 31 = .ok (.iload_n 2, 1) := by decide +kernel
theorem dX8_slot_32 : decode cX8_slot 32 = .ok (.bipush 16, 2) := by decide +kernel
theorem dX8_slot_34 : decode cX8_slot 34 = .ok (.if_icmp .lt 9, 3) := by decide +kernel
theorem dX8_slot_37 : decode cX8_slot 37 = .ok (.aload_n 0, 1) := by decide +kernel
theorem dX8_slot_38 : decode cX8_slot 38 = .ok (.iconst 1, 1) := by decide +kernel
theorem dX8_slot_39 : decode cX8_slot 39 = .ok (.invokevirtual 63, 3) := by decide +kernel
theorem dX8_slot_42 : decode cX8_slot 42 = .ok (.ireturn, 1) := by decide +kernel
theorem dX8_slot_43 : decode cX8_slot 43 = .ok (.aload_n 0, 1) := by decide +kernel
theorem dX8_slot_44 : decode cX8_slot 44 = .ok (.aload_n 0, 1) := by decide +kernel
theorem dX8_slot_45 : decode cX8_slot 45 = .ok (.getfield 37, 3) := by decide +kernel
theorem dX8_slot_48 : decode cX8_slot 48 = .ok (.getfield 105, 3) := by decide +kernel
theorem dX8_slot_51 : decode cX8_slot 51 = .ok (.getfield 120, 3) := by decide +kernel
theorem dX8_slot_54 : decode cX8_slot 54 = .ok (.getfield 244, 3) := by decide +kernel
theorem dX8_slot_57 : decode cX8_slot 57 = .ok (.iload_n 1, 1) := by decide +kernel
theorem dX8_slot_58 : decode cX8_slot 58 = .ok (.bipush 16, 2) := by decide +kernel
theorem dX8_slot_60 : decode cX8_slot 60 = .ok (.imul, 1) := by decide +kernel
theorem dX8_slot_61 : decode cX8_slot 61 = .ok (.iload_n 2, 1) := by decide +kernel
theorem dX8_slot_62 : decode cX8_slot 62 = .ok (.iadd, 1) := by decide +kernel
theorem dX8_slot_63 : decode cX8_slot 63 = .ok (.iaload, 1) := by decide +kernel
theorem dX8_slot_64 : decode cX8_slot 64 = .ok (.invokevirtual 99, 3) := by decide +kernel
theorem dX8_slot_67 : decode cX8_slot 67 = .ok (.ireturn, 1) := by decide +kernel
theorem dX8_page_0 : decode cX8_page 0 = .ok (.aload_n 0, 1) := by decide +kernel
theorem dX8_page_1 : decode cX8_page 1 = .ok (.iload_n 1, 1) := by decide +kernel
theorem dX8_page_2 : decode cX8_page 2 = .ok (.invokevirtual 247, 3) := by decide +kernel
theorem dX8_page_5 : decode cX8_page 5 = .ok (.ifCond .eq 9, 3) := by decide +kernel
theorem dX8_page_8 : decode cX8_page 8 = .ok (.aload_n 0, 1) := by decide +kernel
theorem dX8_page_9 : decode cX8_page 9 = .ok (.iconst 1, 1) := by decide +kernel
theorem dX8_page_10 : decode cX8_page 10 = .ok (.invokevirtual 63, 3) := by decide +kernel
theorem dX8_page_13 : decode cX8_page 13 = .ok (.ireturn, 1) := by decide +kernel
theorem dX8_page_14 : decode cX8_page 14 = .ok (.aload_n 0, 1) := by decide +kernel
theorem dX8_page_15 : decode cX8_page 15 = .ok (.aload_n 0, 1) := by decide +kernel
theorem dX8_page_16 : decode cX8_page 16 = .ok (.getfield 37, 3) := by decide +kernel
theorem dX8_page_19 : decode cX8_page 19 = .ok (.getfield 105, 3) := by decide +kernel
theorem dX8_page_22 : decode cX8_page 22 = .ok (.getfield 250, 3) := by decide +kernel
theorem dX8_page_25 : decode cX8_page 25 = .ok (.iload_n 1, 1) := by decide +kernel
theorem dX8_page_26 : decode cX8_page 26 = .ok (.iaload, 1) := by decide +kernel
theorem dX8_page_27 : decode cX8_page 27 = .ok (.invokevirtual 99, 3) := by decide +kernel
theorem dX8_page_30 : decode cX8_page 30 = .ok (.ireturn, 1) := by decide +kernel
theorem dX8_pooled_0 : decode cX8_pooled 0 = .ok (.aload_n 0, 1) := by decide +kernel
theorem dX8_pooled_1 : decode cX8_pooled 1 = .ok (.iload_n 1, 1) := by decide +kernel
theorem dX8_pooled_2 : decode cX8_pooled 2 = .ok (.invokevirtual 247, 3) := by decide +kernel
theorem dX8_pooled_5 : decode cX8_pooled 5 = .ok (.ifCond .ne 12, 3) := by decide +kernel
theorem dX8_pooled_8 : decode cX8_pooled 8 = .ok (.iload_n 2, 1) := by decide +kernel
theorem dX8_pooled_9 : decode cX8_pooled 9 = .ok (.ifCond .lt 8, 3) := by decide +kernel
theorem dX8_pooled_12 : decode cX8_pooled 12 = .ok (.iload_n 2, 1) := by decide +kernel
theorem dX8_pooled_13 : decode cX8_pooled 13 = .ok (.iconst 4, 1) := by decide +kernel
theorem dX8_pooled_14 : decode cX8_pooled 14 = .ok (.if_icmp .le 9, 3) := by decide +kernel
theorem dX8_pooled_17 : decode cX8_pooled 17 = .ok (.aload_n 0, 1) := by decide +kernel
theorem dX8_pooled_18 : decode cX8_pooled 18 = .ok (.iconst 1, 1) := by decide +kernel
theorem dX8_pooled_19 : decode cX8_pooled 19 = .ok (.invokevirtual 63, 3) := by decide +kernel
theorem dX8_pooled_22 : decode cX8_pooled 22 = .ok (.ireturn, 1) := by decide +kernel
theorem dX8_pooled_23 : decode cX8_pooled 23 = .ok (.aload_n 0, 1) := by decide +kernel
theorem dX8_pooled_24 : decode cX8_pooled 24 = .ok (.getfield 37, 3) := by decide +kernel
theorem dX8_pooled_27 : decode cX8_pooled 27 = .ok (.getfield 105, 3) := by decide +kernel
theorem dX8_pooled_30 : decode cX8_pooled 30 = .ok (.astore_n 3, 1) := by decide +kernel
theorem dX8_pooled_31 : decode cX8_pooled 31 = .ok (.aload_n 3, 1) := by decide +kernel
theorem dX8_pooled_32 : decode cX8_pooled 32 = .ok (.getfield 250, 3) := by decide +kernel
theorem dX8_pooled_35 : decode cX8_pooled 35 = .ok (.iload_n 1, 1) := by decide +kernel
theorem dX8_pooled_36 : decode cX8_pooled 36 = .ok (.iaload, 1) := by decide +kernel
theorem dX8_pooled_37 : decode cX8_pooled 37 = .ok (.iconst 2, 1) := by decide +kernel
theorem dX8_pooled_38 : decode cX8_pooled 38 = .ok (.if_icmp .eq 9, 3) := by decide +kernel
theorem dX8_pooled_41 : decode cX8_pooled 41 = .ok (.aload_n 0, 1) := by decide +kernel
theorem dX8_pooled_42 : decode cX8_pooled 42 = .ok (.iconst 5, 1) := by decide +kernel
theorem dX8_pooled_43 : decode cX8_pooled 43 = .ok (.invokevirtual 63, 3) := by decide +kernel
theorem dX8_pooled_46 : decode cX8_pooled 46 = .ok (.ireturn, 1) := by decide +kernel
theorem dX8_pooled_47 : decode cX8_pooled 47 = .ok (.iload_n 2, 1) := by decide +kernel
theorem dX8_pooled_48 : decode cX8_pooled 48 = .ok (.tableswitch 75 0 3 #[32, 43, 54, 65], 32) := by decide +kernel
theorem dX8_pooled_80 : decode cX8_pooled 80 = .ok (.aload_n 0, 1) := by decide +kernel
theorem dX8_pooled_81 : decode cX8_pooled 81 = .ok (.aload_n 3, 1) := by decide +kernel
theorem dX8_pooled_82 : decode cX8_pooled 82 = .ok (.getfield 253, 3) := by decide +kernel
theorem dX8_pooled_85 : decode cX8_pooled 85 = .ok (.iload_n 1, 1) := by decide +kernel
theorem dX8_pooled_86 : decode cX8_pooled 86 = .ok (.iaload, 1) := by decide +kernel
theorem dX8_pooled_87 : decode cX8_pooled 87 = .ok (.invokevirtual 99, 3) := by decide +kernel
theorem dX8_pooled_90 : decode cX8_pooled 90 = .ok (.ireturn, 1) := by decide +kernel
theorem dX8_pooled_91 : decode cX8_pooled 91 = .ok (.aload_n 0, 1) := by decide +kernel
theorem dX8_pooled_92 : decode cX8_pooled 92 = .ok (.aload_n 3, 1) := by decide +kernel
theorem dX8_pooled_93 : decode cX8_pooled 93 = .ok (.getfield 254, 3) := by decide +kernel
theorem dX8_pooled_96 : decode cX8_pooled 96 = .ok (.iload_n 1, 1) := by decide +kernel
theorem dX8_pooled_97 : decode cX8_pooled 97 = .ok (.iaload, 1) := by decide +kernel
theorem dX8_pooled_98 : decode cX8_pooled 98 = .ok (.invokevirtual 99, 3) := by decide +kernel
theorem dX8_pooled_101 : decode cX8_pooled 101 = .ok (.ireturn, 1) := by decide +kernel
theorem dX8_pooled_102 : decode cX8_pooled 102 = .ok (.aload_n 0, 1) := by decide +kernel
theorem dX8_pooled_103 : decode cX8_pooled 103 = .ok (.aload_n 3, 1) := by decide +kernel
theorem dX8_pooled_104 : decode cX8_pooled 104 = .ok (.getfield 257, 3) := by decide +kernel
theorem dX8_pooled_107 : decode cX8_pooled 107 = .ok (.iload_n 1, 1) := by decide +kernel
theorem dX8_pooled_108 : decode cX8_pooled 108 = .ok (.iaload, 1) := by decide +kernel
theorem dX8_pooled_109 : decode cX8_pooled 109 = .ok (.invokevirtual 99, 3) := by decide +kernel
theorem dX8_pooled_112 : decode cX8_pooled 112 = .ok (.ireturn, 1) := by decide +kernel
theorem dX8_pooled_113 : decode cX8_pooled 113 = .ok (.aload_n 0, 1) := by decide +kernel
theorem dX8_pooled_114 : decode cX8_pooled 114 = .ok (.aload_n 3, 1) := by decide +kernel
theorem dX8_pooled_115 : decode cX8_pooled 115 = .ok (.iload_n 1, 1) := by decide +kernel
theorem dX8_pooled_116 : decode cX8_pooled 116 = .ok (.invokevirtual 260, 3) := by decide +kernel
theorem dX8_pooled_119 : decode cX8_pooled 119 = .ok (.invokevirtual 99, 3) := by decide +kernel
theorem dX8_pooled_122 : decode cX8_pooled 122 = .ok (.ireturn, 1) := by decide +kernel
theorem dX8_pooled_123 : decode cX8_pooled 123 = .ok (.aload_n 0, 1) := by decide +kernel
theorem dX8_pooled_124 : decode cX8_pooled 124 = .ok (.aload_n 3, 1) := by decide +kernel
theorem dX8_pooled_125 : decode cX8_pooled 125 = .ok (.getfield 263, 3) := by decide +kernel
theorem dX8_pooled_128 : decode cX8_pooled 128 = .ok (.iload_n 1, 1) := by decide +kernel
theorem dX8_pooled_129 : decode cX8_pooled 129 = .ok (.iaload, 1) := by decide +kernel
theorem dX8_pooled_130 : decode cX8_pooled 130 = .ok (.invokevirtual 99, 3) := by decide +kernel
theorem dX8_pooled_133 : decode cX8_pooled 133 = .ok (.ireturn, 1) := by decide +kernel
theorem dX8_read_0 : decode cX8_read 0 = .ok (.aload_n 0, 1) := by decide +kernel
theorem dX8_read_1 : decode cX8_read 1 = .ok (.iload_n 1, 1) := by decide +kernel
theorem dX8_read_2 : decode cX8_read 2 = .ok (.invokevirtual 247, 3) := by decide +kernel
theorem dX8_read_5 : decode cX8_read 5 = .ok (.ifCond .ne 10, 3) := by decide +kernel
theorem dX8_read_8 : decode cX8_read 8 = .ok (.iload_n 2, 1) := by decide +kernel
theorem dX8_read_9 : decode cX8_read 9 = .ok (.invokestatic 145, 3) := by decide +kernel
theorem dX8_read_12 : decode cX8_read 12 = .ok (.ifCond .eq 9, 3) := by decide +kernel
theorem dX8_read_15 : decode cX8_read 15 = .ok (.aload_n 0, 1) := by decide +kernel
theorem dX8_read_16 : decode cX8_read 16 = .ok (.iconst 1, 1) := by decide +kernel
theorem dX8_read_17 : decode cX8_read 17 = .ok (.invokevirtual 63, 3) := by decide +kernel
theorem dX8_read_20 : decode cX8_read 20 = .ok (.ireturn, 1) := by decide +kernel
theorem dX8_read_21 : decode cX8_read 21 = .ok (.aload_n 0, 1) := by decide +kernel
theorem dX8_read_22 : decode cX8_read 22 = .ok (.getfield 37, 3) := by decide +kernel
theorem dX8_read_25 : decode cX8_read 25 = .ok (.getfield 105, 3) := by decide +kernel
theorem dX8_read_28 : decode cX8_read 28 = .ok (.getfield 250, 3) := by decide +kernel
theorem dX8_read_31 : decode cX8_read 31 = .ok (.iload_n 1, 1) := by decide +kernel
theorem dX8_read_32 : decode cX8_read 32 = .ok (.iaload, 1) := by decide +kernel
theorem dX8_read_33 : decode cX8_read 33 = .ok (.ifCond .ne 9, 3) := by decide +kernel
theorem dX8_read_36 : decode cX8_read 36 = .ok (.aload_n 0, 1) := by decide +kernel
theorem dX8_read_37 : decode cX8_read 37 = .ok (.iconst 5, 1) := by decide +kernel
theorem dX8_read_38 : decode cX8_read 38 = .ok (.invokevirtual 63, 3) := by decide +kernel
theorem dX8_read_41 : decode cX8_read 41 = .ok (.ireturn, 1) := by decide +kernel
theorem dX8_read_42 : decode cX8_read 42 = .ok (.aload_n 0, 1) := by decide +kernel
theorem dX8_read_43 : decode cX8_read 43 = .ok (.aload_n 0, 1) := by decide +kernel
theorem dX8_read_44 : decode cX8_read 44 = .ok (.getfield 37, 3) := by decide +kernel
theorem dX8_read_47 : decode cX8_read 47 = .ok (.getfield 105, 3) := by decide +kernel
theorem dX8_read_50 : decode cX8_read 50 = .ok (.getfield 266, 3) := by decide +kernel
theorem dX8_read_53 : decode cX8_read 53 = .ok (.iload_n 1, 1) := by decide +kernel
theorem dX8_read_54 : decode cX8_read 54 = .ok (.bipush 16, 2) := by decide +kernel
theorem dX8_read_56 : decode cX8_read 56 = .ok (.imul, 1) := by decide +kernel
theorem dX8_read_57 : decode cX8_read 57 = .ok (.iload_n 2, 1) := by decide +kernel
theorem dX8_read_58 : decode cX8_read 58 = .ok (.iadd, 1) := by decide +kernel
theorem dX8_read_59 : decode cX8_read 59 = .ok (.iaload, 1) := by decide +kernel
theorem dX8_read_60 : decode cX8_read 60 = .ok (.invokevirtual 99, 3) := by decide +kernel
theorem dX8_read_63 : decode cX8_read 63 = .ok (.ireturn, 1) := by decide +kernel
theorem dX8_aged_0 : decode cX8_aged 0 = .ok (.aload_n 0, 1) := by decide +kernel
theorem dX8_aged_1 : decode cX8_aged 1 = .ok (.getfield 85, 3) := by decide +kernel
theorem dX8_aged_4 : decode cX8_aged 4 = .ok (.ifCond .eq 21, 3) := by decide +kernel
theorem dX8_aged_7 : decode cX8_aged 7 = .ok (.iload_n 1, 1) := by decide +kernel
theorem dX8_aged_8 : decode cX8_aged 8 = .ok (.ifCond .lt 17, 3) := by decide +kernel
theorem dX8_aged_11 : decode cX8_aged 11 = .ok (.iload_n 1, 1) := by decide +kernel
theorem dX8_aged_12 : decode cX8_aged 12 = .ok (.aload_n 0, 1) := by decide +kernel
theorem dX8_aged_13 : decode cX8_aged 13 = .ok (.getfield 37, 3) := by decide +kernel
theorem dX8_aged_16 : decode cX8_aged 16 = .ok (.getfield 105, 3) := by decide +kernel
theorem dX8_aged_19 : decode cX8_aged 19 = .ok (.getfield 132, 3) := by decide +kernel
theorem dX8_aged_22 : decode cX8_aged 22 = .ok (.if_icmp .lt 9, 3) := by decide +kernel
theorem dX8_aged_25 : decode cX8_aged 25 = .ok (.aload_n 0, 1) := by decide +kernel
theorem dX8_aged_26 : decode cX8_aged 26 = .ok (.iconst 1, 1) := by decide +kernel
theorem dX8_aged_27 : decode cX8_aged 27 = .ok (.invokevirtual 63, 3) := by decide +kernel
theorem dX8_aged_30 : decode cX8_aged 30 = .ok (.ireturn, 1) := by decide +kernel
theorem dX8_aged_31 : decode cX8_aged 31 = .ok (.aload_n 0, 1) := by decide +kernel
theorem dX8_aged_32 : decode cX8_aged 32 = .ok (.aload_n 0, 1) := by decide +kernel
theorem dX8_aged_33 : decode cX8_aged 33 = .ok (.getfield 37, 3) := by decide +kernel
theorem dX8_aged_36 : decode cX8_aged 36 = .ok (.getfield 105, 3) := by decide +kernel
theorem dX8_aged_39 : decode cX8_aged 39 = .ok (.getfield 267, 3) := by decide +kernel
theorem dX8_aged_42 : decode cX8_aged 42 = .ok (.iload_n 1, 1) := by decide +kernel
theorem dX8_aged_43 : decode cX8_aged 43 = .ok (.iaload, 1) := by decide +kernel
theorem dX8_aged_44 : decode cX8_aged 44 = .ok (.invokevirtual 99, 3) := by decide +kernel
theorem dX8_aged_47 : decode cX8_aged 47 = .ok (.ireturn, 1) := by decide +kernel
theorem dX8_total_0 : decode cX8_total 0 = .ok (.aload_n 0, 1) := by decide +kernel
theorem dX8_total_1 : decode cX8_total 1 = .ok (.getfield 85, 3) := by decide +kernel
theorem dX8_total_4 : decode cX8_total 4 = .ok (.ifCond .eq 12, 3) := by decide +kernel
theorem dX8_total_7 : decode cX8_total 7 = .ok (.iload_n 1, 1) := by decide +kernel
theorem dX8_total_8 : decode cX8_total 8 = .ok (.ifCond .lt 8, 3) := by decide +kernel
theorem dX8_total_11 : decode cX8_total 11 = .ok (.iload_n 1, 1) := by decide +kernel
theorem dX8_total_12 : decode cX8_total 12 = .ok (.iconst 4, 1) := by decide +kernel
theorem dX8_total_13 : decode cX8_total 13 = .ok (.if_icmp .lt 9, 3) := by decide +kernel
theorem dX8_total_16 : decode cX8_total 16 = .ok (.aload_n 0, 1) := by decide +kernel
theorem dX8_total_17 : decode cX8_total 17 = .ok (.iconst 1, 1) := by decide +kernel
theorem dX8_total_18 : decode cX8_total 18 = .ok (.invokevirtual 63, 3) := by decide +kernel
theorem dX8_total_21 : decode cX8_total 21 = .ok (.ireturn, 1) := by decide +kernel
theorem dX8_total_22 : decode cX8_total 22 = .ok (.aload_n 0, 1) := by decide +kernel
theorem dX8_total_23 : decode cX8_total 23 = .ok (.aload_n 0, 1) := by decide +kernel
theorem dX8_total_24 : decode cX8_total 24 = .ok (.getfield 37, 3) := by decide +kernel
theorem dX8_total_27 : decode cX8_total 27 = .ok (.getfield 105, 3) := by decide +kernel
theorem dX8_total_30 : decode cX8_total 30 = .ok (.getfield 270, 3) := by decide +kernel
theorem dX8_total_33 : decode cX8_total 33 = .ok (.iload_n 1, 1) := by decide +kernel
theorem dX8_total_34 : decode cX8_total 34 = .ok (.iaload, 1) := by decide +kernel
theorem dX8_total_35 : decode cX8_total 35 = .ok (.invokevirtual 99, 3) := by decide +kernel
theorem dX8_total_38 : decode cX8_total 38 = .ok (.ireturn, 1) := by decide +kernel
theorem dX8_same_0 : decode cX8_same 0 = .ok (.aload_n 0, 1) := by decide +kernel
theorem dX8_same_1 : decode cX8_same 1 = .ok (.iload_n 1, 1) := by decide +kernel
theorem dX8_same_2 : decode cX8_same 2 = .ok (.invokevirtual 247, 3) := by decide +kernel
theorem dX8_same_5 : decode cX8_same 5 = .ok (.ifCond .ne 11, 3) := by decide +kernel
theorem dX8_same_8 : decode cX8_same 8 = .ok (.aload_n 0, 1) := by decide +kernel
theorem dX8_same_9 : decode cX8_same 9 = .ok (.iload_n 2, 1) := by decide +kernel
theorem dX8_same_10 : decode cX8_same 10 = .ok (.invokevirtual 247, 3) := by decide +kernel
theorem dX8_same_13 : decode cX8_same 13 = .ok (.ifCond .eq 9, 3) := by decide +kernel
theorem dX8_same_16 : decode cX8_same 16 = .ok (.aload_n 0, 1) := by decide +kernel
theorem dX8_same_17 : decode cX8_same 17 = .ok (.iconst 1, 1) := by decide +kernel
theorem dX8_same_18 : decode cX8_same 18 = .ok (.invokevirtual 63, 3) := by decide +kernel
theorem dX8_same_21 : decode cX8_same 21 = .ok (.ireturn, 1) := by decide +kernel
theorem dX8_same_22 : decode cX8_same 22 = .ok (.aload_n 0, 1) := by decide +kernel
theorem dX8_same_23 : decode cX8_same 23 = .ok (.getfield 37, 3) := by decide +kernel
theorem dX8_same_26 : decode cX8_same 26 = .ok (.getfield 105, 3) := by decide +kernel
theorem dX8_same_29 : decode cX8_same 29 = .ok (.getfield 250, 3) := by decide +kernel
theorem dX8_same_32 : decode cX8_same 32 = .ok (.iload_n 1, 1) := by decide +kernel
theorem dX8_same_33 : decode cX8_same 33 = .ok (.iaload, 1) := by decide +kernel
theorem dX8_same_34 : decode cX8_same 34 = .ok (.ifCond .eq 18, 3) := by decide +kernel
theorem dX8_same_37 : decode cX8_same 37 = .ok (.aload_n 0, 1) := by decide +kernel
theorem dX8_same_38 : decode cX8_same 38 = .ok (.getfield 37, 3) := by decide +kernel
theorem dX8_same_41 : decode cX8_same 41 = .ok (.getfield 105, 3) := by decide +kernel
theorem dX8_same_44 : decode cX8_same 44 = .ok (.getfield 250, 3) := by decide +kernel
theorem dX8_same_47 : decode cX8_same 47 = .ok (.iload_n 2, 1) := by decide +kernel
theorem dX8_same_48 : decode cX8_same 48 = .ok (.iaload, 1) := by decide +kernel
theorem dX8_same_49 : decode cX8_same 49 = .ok (.ifCond .ne 9, 3) := by decide +kernel
theorem dX8_same_52 : decode cX8_same 52 = .ok (.aload_n 0, 1) := by decide +kernel
theorem dX8_same_53 : decode cX8_same 53 = .ok (.iconst 5, 1) := by decide +kernel
theorem dX8_same_54 : decode cX8_same 54 = .ok (.invokevirtual 63, 3) := by decide +kernel
theorem dX8_same_57 : decode cX8_same 57 = .ok (.ireturn, 1) := by decide +kernel
theorem dX8_same_58 : decode cX8_same 58 = .ok (.aload_n 0, 1) := by decide +kernel
theorem dX8_same_59 : decode cX8_same 59 = .ok (.aload_n 0, 1) := by decide +kernel
theorem dX8_same_60 : decode cX8_same 60 = .ok (.getfield 37, 3) := by decide +kernel
theorem dX8_same_63 : decode cX8_same 63 = .ok (.getfield 105, 3) := by decide +kernel
theorem dX8_same_66 : decode cX8_same 66 = .ok (.iload_n 1, 1) := by decide +kernel
theorem dX8_same_67 : decode cX8_same 67 = .ok (.iload_n 2, 1) := by decide +kernel
theorem dX8_same_68 : decode cX8_same 68 = .ok (.invokevirtual 273, 3) := by decide +kernel
theorem dX8_same_71 : decode cX8_same 71 = .ok (.ifCond .eq 7, 3) := by decide +kernel
theorem dX8_same_74 : decode cX8_same 74 = .ok (.iconst 1, 1) := by decide +kernel
theorem dX8_same_75 : decode cX8_same 75 = .ok (.goto 4, 3) := by decide +kernel
theorem dX8_same_78 : decode cX8_same 78 = .ok (.iconst 0, 1) := by decide +kernel
theorem dX8_same_79 : decode cX8_same 79 = .ok (.invokevirtual 99, 3) := by decide +kernel
theorem dX8_same_82 : decode cX8_same 82 = .ok (.ireturn, 1) := by decide +kernel
theorem dX8_waste_0 : decode cX8_waste 0 = .ok (.aload_n 0, 1) := by decide +kernel
theorem dX8_waste_1 : decode cX8_waste 1 = .ok (.getfield 85, 3) := by decide +kernel
theorem dX8_waste_4 : decode cX8_waste 4 = .ok (.ifCond .ne 9, 3) := by decide +kernel
theorem dX8_waste_7 : decode cX8_waste 7 = .ok (.aload_n 0, 1) := by decide +kernel
theorem dX8_waste_8 : decode cX8_waste 8 = .ok (.iconst 1, 1) := by decide +kernel
theorem dX8_waste_9 : decode cX8_waste 9 = .ok (.invokevirtual 63, 3) := by decide +kernel
theorem dX8_waste_12 : decode cX8_waste 12 = .ok (.ireturn, 1) := by decide +kernel
theorem dX8_waste_13 : decode cX8_waste 13 = .ok (.aload_n 0, 1) := by decide +kernel
theorem dX8_waste_14 : decode cX8_waste 14 = .ok (.aload_n 0, 1) := by decide +kernel
theorem dX8_waste_15 : decode cX8_waste 15 = .ok (.getfield 37, 3) := by decide +kernel
theorem dX8_waste_18 : decode cX8_waste 18 = .ok (.getfield 105, 3) := by decide +kernel
theorem dX8_waste_21 : decode cX8_waste 21 = .ok (.getfield 120, 3) := by decide +kernel
theorem dX8_waste_24 : decode cX8_waste 24 = .ok (.getfield 124, 3) := by decide +kernel
theorem dX8_waste_27 : decode cX8_waste 27 = .ok (.bipush 16, 2) := by decide +kernel
theorem dX8_waste_29 : decode cX8_waste 29 = .ok (.imul, 1) := by decide +kernel
theorem dX8_waste_30 : decode cX8_waste 30 = .ok (.aload_n 0, 1) := by decide +kernel
theorem dX8_waste_31 : decode cX8_waste 31 = .ok (.getfield 37, 3) := by decide +kernel
theorem dX8_waste_34 : decode cX8_waste 34 = .ok (.getfield 105, 3) := by decide +kernel
theorem dX8_waste_37 : decode cX8_waste 37 = .ok (.invokevirtual 138, 3) := by decide +kernel
theorem dX8_waste_40 : decode cX8_waste 40 = .ok (.isub, 1) := by decide +kernel
theorem dX8_waste_41 : decode cX8_waste 41 = .ok (.invokevirtual 99, 3) := by decide +kernel
theorem dX8_waste_44 : decode cX8_waste 44 = .ok (.ireturn, 1) := by decide +kernel
theorem dX8_would_0 : decode cX8_would 0 = .ok (.aload_n 0, 1) := by decide +kernel
theorem dX8_would_1 : decode cX8_would 1 = .ok (.getfield 85, 3) := by decide +kernel
theorem dX8_would_4 : decode cX8_would 4 = .ok (.ifCond .ne 9, 3) := by decide +kernel
theorem dX8_would_7 : decode cX8_would 7 = .ok (.aload_n 0, 1) := by decide +kernel
theorem dX8_would_8 : decode cX8_would 8 = .ok (.iconst 1, 1) := by decide +kernel
theorem dX8_would_9 : decode cX8_would 9 = .ok (.invokevirtual 63, 3) := by decide +kernel
theorem dX8_would_12 : decode cX8_would 12 = .ok (.ireturn, 1) := by decide +kernel
theorem dX8_would_13 : decode cX8_would 13 = .ok (.iload_n 1, 1) := by decide +kernel
theorem dX8_would_14 : decode cX8_would 14 = .ok (.invokestatic 277, 3) := by decide +kernel
theorem dX8_would_17 : decode cX8_would 17 = .ok (.ifCond .eq 9, 3) := by decide +kernel
theorem dX8_would_20 : decode cX8_would 20 = .ok (.aload_n 0, 1) := by decide +kernel
theorem dX8_would_21 : decode cX8_would 21 = .ok (.iconst 2, 1) := by decide +kernel
theorem dX8_would_22 : decode cX8_would 22 = .ok (.invokevirtual 63, 3) := by decide +kernel
theorem dX8_would_25 : decode cX8_would 25 = .ok (.ireturn, 1) := by decide +kernel
theorem dX8_would_26 : decode cX8_would 26 = .ok (.aload_n 0, 1) := by decide +kernel
theorem dX8_would_27 : decode cX8_would 27 = .ok (.iload_n 2, 1) := by decide +kernel
theorem dX8_would_28 : decode cX8_would 28 = .ok (.invokevirtual 280, 3) := by decide +kernel
theorem dX8_would_31 : decode cX8_would 31 = .ok (.aload_n 0, 1) := by decide +kernel
theorem dX8_would_32 : decode cX8_would 32 = .ok (.aload_n 0, 1) := by decide +kernel
theorem dX8_would_33 : decode cX8_would 33 = .ok (.getfield 44, 3) := by decide +kernel
theorem dX8_would_36 : decode cX8_would 36 = .ok (.iload_n 1, 1) := by decide +kernel
theorem dX8_would_37 : decode cX8_would 37 = .ok (.invokevirtual 284, 3) := by decide +kernel
theorem dX8_would_40 : decode cX8_would 40 = .ok (.invokevirtual 99, 3) := by decide +kernel
theorem dX8_would_43 : decode cX8_would 43 = .ok (.ireturn, 1) := by decide +kernel
theorem dX8_freeing_0 : decode cX8_freeing 0 = .ok (.aload_n 0, 1) := by decide +kernel
theorem dX8_freeing_1 : decode cX8_freeing 1 = .ok (.getfield 85, 3) := by decide +kernel
theorem dX8_freeing_4 : decode cX8_freeing 4 = .ok (.ifCond .ne 9, 3) := by decide +kernel
theorem dX8_freeing_7 : decode cX8_freeing 7 = .ok (.aload_n 0, 1) := by decide +kernel
theorem dX8_freeing_8 : decode cX8_freeing 8 = .ok (.iconst 1, 1) := by decide +kernel
theorem dX8_freeing_9 : decode cX8_freeing 9 = .ok (.invokevirtual 63, 3) := by decide +kernel
theorem dX8_freeing_12 : decode cX8_freeing 12 = .ok (.ireturn, 1) := by decide +kernel
theorem dX8_freeing_13 : decode cX8_freeing 13 = .ok (.aload_n 0, 1) := by decide +kernel
theorem dX8_freeing_14 : decode cX8_freeing 14 = .ok (.getfield 44, 3) := by decide +kernel
theorem dX8_freeing_17 : decode cX8_freeing 17 = .ok (.aload_n 0, 1) := by decide +kernel
theorem dX8_freeing_18 : decode cX8_freeing 18 = .ok (.getfield 37, 3) := by decide +kernel
theorem dX8_freeing_21 : decode cX8_freeing 21 = .ok (.getfield 105, 3) := by decide +kernel
theorem dX8_freeing_24 : decode cX8_freeing 24 = .ok (.invokevirtual 215, 3) := by decide +kernel
theorem dX8_freeing_27 : decode cX8_freeing 27 = .ok (.iconst 1, 1) := by decide +kernel
theorem dX8_freeing_28 : decode cX8_freeing 28 = .ok (.istore_n 1, 1) := by decide +kernel
theorem dX8_freeing_29 : decode cX8_freeing 29 = .ok (.iload_n 1, 1) := by decide +kernel
theorem dX8_freeing_30 : decode cX8_freeing 30 = .ok (.bipush 30, 2) := by decide +kernel
theorem dX8_freeing_32 : decode cX8_freeing 32 = .ok (.if_icmp .gt 59, 3) := by decide +kernel
theorem dX8_freeing_35 : decode cX8_freeing 35 = .ok (.aload_n 0, 1) := by decide +kernel
theorem dX8_freeing_36 : decode cX8_freeing 36 = .ok (.getfield 44, 3) := by decide +kernel
theorem dX8_freeing_39 : decode cX8_freeing 39 = .ok (.iconst 1, 1) := by decide +kernel
theorem dX8_freeing_40 : decode cX8_freeing 40 = .ok (.invokevirtual 287, 3) := by decide +kernel
theorem dX8_freeing_43 : decode cX8_freeing 43 = .ok (.ifCond .ne 10, 3) := by decide +kernel
theorem dX8_freeing_46 : decode cX8_freeing 46 = .ok (.aload_n 0, 1) := by decide +kernel
theorem dX8_freeing_47 : decode cX8_freeing 47 = .ok (.bipush (-2), 2) := by decide +kernel
theorem dX8_freeing_49 : decode cX8_freeing 49 = .ok (.invokevirtual 99, 3) := by decide +kernel
theorem dX8_freeing_52 : decode cX8_freeing 52 = .ok (.ireturn, 1) := by decide +kernel
theorem dX8_freeing_53 : decode cX8_freeing 53 = .ok (.aload_n 0, 1) := by decide +kernel
theorem dX8_freeing_54 : decode cX8_freeing 54 = .ok (.getfield 44, 3) := by decide +kernel
theorem dX8_freeing_57 : decode cX8_freeing 57 = .ok (.getfield 120, 3) := by decide +kernel
theorem dX8_freeing_60 : decode cX8_freeing 60 = .ok (.getfield 124, 3) := by decide +kernel
theorem dX8_freeing_63 : decode cX8_freeing 63 = .ok (.aload_n 0, 1) := by decide +kernel
theorem dX8_freeing_64 : decode cX8_freeing 64 = .ok (.getfield 37, 3) := by decide +kernel
theorem dX8_freeing_67 : decode cX8_freeing 67 = .ok (.getfield 105, 3) := by decide +kernel
theorem dX8_freeing_70 : decode cX8_freeing 70 = .ok (.getfield 120, 3) := by decide +kernel
theorem dX8_freeing_73 : decode cX8_freeing 73 = .ok (.getfield 124, 3) := by decide +kernel
theorem dX8_freeing_76 : decode cX8_freeing 76 = .ok (.if_icmp .ge 9, 3) := by decide +kernel
theorem dX8_freeing_79 : decode cX8_freeing 79 = .ok (.aload_n 0, 1) := by decide +kernel
theorem dX8_freeing_80 : decode cX8_freeing 80 = .ok (.iload_n 1, 1) := by decide +kernel
theorem dX8_freeing_81 : decode cX8_freeing 81 = .ok (.invokevirtual 99, 3) := by decide +kernel
theorem dX8_freeing_84 : decode cX8_freeing 84 = .ok (.ireturn, 1) := by decide +kernel
theorem dX8_freeing_85 : decode cX8_freeing 85 = .ok (.iinc 1 1, 3) := by decide +kernel
theorem dX8_freeing_88 : decode cX8_freeing 88 = .ok (.goto (-59), 3) := by decide +kernel
theorem dX8_freeing_91 : decode cX8_freeing 91 = .ok (.aload_n 0, 1) := by decide +kernel
theorem dX8_freeing_92 : decode cX8_freeing 92 = .ok (.bipush (-2), 2) := by decide +kernel
theorem dX8_freeing_94 : decode cX8_freeing 94 = .ok (.invokevirtual 99, 3) := by decide +kernel
theorem dX8_freeing_97 : decode cX8_freeing 97 = .ok (.ireturn, 1) := by decide +kernel
theorem dX8_holds_0 : decode cX8_holds 0 = .ok (.aload_n 0, 1) := by decide +kernel
theorem dX8_holds_1 : decode cX8_holds 1 = .ok (.getfield 85, 3) := by decide +kernel
theorem dX8_holds_4 : decode cX8_holds 4 = .ok (.ifCond .ne 9, 3) := by decide +kernel
theorem dX8_holds_7 : decode cX8_holds 7 = .ok (.aload_n 0, 1) := by decide +kernel
theorem dX8_holds_8 : decode cX8_holds 8 = .ok (.iconst 1, 1) := by decide +kernel
theorem dX8_holds_9 : decode cX8_holds 9 = .ok (.invokevirtual 63, 3) := by decide +kernel
theorem dX8_holds_12 : decode cX8_holds 12 = .ok (.ireturn, 1) := by decide +kernel
theorem dX8_holds_13 : decode cX8_holds 13 = .ok (.aload_n 0, 1) := by decide +kernel
theorem dX8_holds_14 : decode cX8_holds 14 = .ok (.iload_n 1, 1) := by decide +kernel
theorem dX8_holds_15 : decode cX8_holds 15 = .ok (.invokevirtual 280, 3) := by decide +kernel
theorem dX8_holds_18 : decode cX8_holds 18 = .ok (.aload_n 0, 1) := by decide +kernel
theorem dX8_holds_19 : decode cX8_holds 19 = .ok (.getfield 44, 3) := by decide +kernel
theorem dX8_holds_22 : decode cX8_holds 22 = .ok (.invokevirtual 290, 3) := by decide +kernel
theorem dX8_holds_25 : decode cX8_holds 25 = .ok (.ifCond .ge 9, 3) := by decide +kernel
theorem dX8_holds_28 : decode cX8_holds 28 = .ok (.aload_n 0, 1) := by decide +kernel
theorem dX8_holds_29 : decode cX8_holds 29 = .ok (.iconst 1, 1) := by decide +kernel
theorem dX8_holds_30 : decode cX8_holds 30 = .ok (.invokevirtual 99, 3) := by decide +kernel
theorem dX8_holds_33 : decode cX8_holds 33 = .ok (.ireturn, 1) := by decide +kernel
theorem dX8_holds_34 : decode cX8_holds 34 = .ok (.aload_n 0, 1) := by decide +kernel
theorem dX8_holds_35 : decode cX8_holds 35 = .ok (.iconst 1, 1) := by decide +kernel
theorem dX8_holds_36 : decode cX8_holds 36 = .ok (.aload_n 0, 1) := by decide +kernel
theorem dX8_holds_37 : decode cX8_holds 37 = .ok (.getfield 44, 3) := by decide +kernel
theorem dX8_holds_40 : decode cX8_holds 40 = .ok (.getfield 120, 3) := by decide +kernel
theorem dX8_holds_43 : decode cX8_holds 43 = .ok (.getfield 124, 3) := by decide +kernel
theorem dX8_holds_46 : decode cX8_holds 46 = .ok (.invokestatic 293, 3) := by decide +kernel
theorem dX8_holds_49 : decode cX8_holds 49 = .ok (.invokevirtual 99, 3) := by decide +kernel
theorem dX8_holds_52 : decode cX8_holds 52 = .ok (.ireturn, 1) := by decide +kernel
theorem dX8_pushes_0 : decode cX8_pushes 0 = .ok (.aload_n 0, 1) := by decide +kernel
theorem dX8_pushes_1 : decode cX8_pushes 1 = .ok (.iload_n 1, 1) := by decide +kernel
theorem dX8_pushes_2 : decode cX8_pushes 2 = .ok (.invokevirtual 247, 3) := by decide +kernel
theorem dX8_pushes_5 : decode cX8_pushes 5 = .ok (.ifCond .ne 11, 3) := by decide +kernel
theorem dX8_pushes_8 : decode cX8_pushes 8 = .ok (.aload_n 0, 1) := by decide +kernel
theorem dX8_pushes_9 : decode cX8_pushes 9 = .ok (.iload_n 2, 1) := by decide +kernel
theorem dX8_pushes_10 : decode cX8_pushes 10 = .ok (.invokevirtual 141, 3) := by decide +kernel
theorem dX8_pushes_13 : decode cX8_pushes 13 = .ok (.ifCond .eq 9, 3) := by decide +kernel
theorem dX8_pushes_16 : decode cX8_pushes 16 = .ok (.aload_n 0, 1) := by decide +kernel
theorem dX8_pushes_17 : decode cX8_pushes 17 = .ok (.iconst 1, 1) := by decide +kernel
theorem dX8_pushes_18 : decode cX8_pushes 18 = .ok (.invokevirtual 63, 3) := by decide +kernel
theorem dX8_pushes_21 : decode cX8_pushes 21 = .ok (.ireturn, 1) := by decide +kernel
theorem dX8_pushes_22 : decode cX8_pushes 22 = .ok (.aload_n 0, 1) := by decide +kernel
theorem dX8_pushes_23 : decode cX8_pushes 23 = .ok (.iload_n 1, 1) := by decide +kernel
theorem dX8_pushes_24 : decode cX8_pushes 24 = .ok (.iload_n 2, 1) := by decide +kernel
theorem dX8_pushes_25 : decode cX8_pushes 25 = .ok (.invokevirtual 298, 3) := by decide +kernel
theorem dX8_pushes_28 : decode cX8_pushes 28 = .ok (.aload_n 0, 1) := by decide +kernel
theorem dX8_pushes_29 : decode cX8_pushes 29 = .ok (.aload_n 0, 1) := by decide +kernel
theorem dX8_pushes_30 : decode cX8_pushes 30 = .ok (.getfield 44, 3) := by decide +kernel
theorem dX8_pushes_33 : decode cX8_pushes 33 = .ok (.getfield 302, 3) := by decide +kernel
theorem dX8_pushes_36 : decode cX8_pushes 36 = .ok (.invokevirtual 99, 3) := by decide +kernel
theorem dX8_pushes_39 : decode cX8_pushes 39 = .ok (.ireturn, 1) := by decide +kernel
theorem dX8_pushed_0 : decode cX8_pushed 0 = .ok (.aload_n 0, 1) := by decide +kernel
theorem dX8_pushed_1 : decode cX8_pushed 1 = .ok (.iload_n 1, 1) := by decide +kernel
theorem dX8_pushed_2 : decode cX8_pushed 2 = .ok (.invokevirtual 247, 3) := by decide +kernel
theorem dX8_pushed_5 : decode cX8_pushed 5 = .ok (.ifCond .ne 11, 3) := by decide +kernel
theorem dX8_pushed_8 : decode cX8_pushed 8 = .ok (.aload_n 0, 1) := by decide +kernel
theorem dX8_pushed_9 : decode cX8_pushed 9 = .ok (.iload_n 2, 1) := by decide +kernel
theorem dX8_pushed_10 : decode cX8_pushed 10 = .ok (.invokevirtual 141, 3) := by decide +kernel
theorem dX8_pushed_13 : decode cX8_pushed 13 = .ok (.ifCond .eq 9, 3) := by decide +kernel
theorem dX8_pushed_16 : decode cX8_pushed 16 = .ok (.aload_n 0, 1) := by decide +kernel
theorem dX8_pushed_17 : decode cX8_pushed 17 = .ok (.iconst 1, 1) := by decide +kernel
theorem dX8_pushed_18 : decode cX8_pushed 18 = .ok (.invokevirtual 63, 3) := by decide +kernel
theorem dX8_pushed_21 : decode cX8_pushed 21 = .ok (.ireturn, 1) := by decide +kernel
theorem dX8_pushed_22 : decode cX8_pushed 22 = .ok (.aload_n 0, 1) := by decide +kernel
theorem dX8_pushed_23 : decode cX8_pushed 23 = .ok (.iload_n 1, 1) := by decide +kernel
theorem dX8_pushed_24 : decode cX8_pushed 24 = .ok (.iload_n 2, 1) := by decide +kernel
theorem dX8_pushed_25 : decode cX8_pushed 25 = .ok (.invokevirtual 298, 3) := by decide +kernel
theorem dX8_pushed_28 : decode cX8_pushed 28 = .ok (.iload_n 3, 1) := by decide +kernel
theorem dX8_pushed_29 : decode cX8_pushed 29 = .ok (.ifCond .lt 14, 3) := by decide +kernel
theorem dX8_pushed_32 : decode cX8_pushed 32 = .ok (.iload_n 3, 1) := by decide +kernel
theorem dX8_pushed_33 : decode cX8_pushed 33 = .ok (.aload_n 0, 1) := by decide +kernel
theorem dX8_pushed_34 : decode cX8_pushed 34 = .ok (.getfield 44, 3) := by decide +kernel
theorem dX8_pushed_37 : decode cX8_pushed 37 = .ok (.getfield 302, 3) := by decide +kernel
theorem dX8_pushed_40 : decode cX8_pushed 40 = .ok (.if_icmp .lt 9, 3) := by decide +kernel
theorem dX8_pushed_43 : decode cX8_pushed 43 = .ok (.aload_n 0, 1) := by decide +kernel
theorem dX8_pushed_44 : decode cX8_pushed 44 = .ok (.iconst 1, 1) := by decide +kernel
theorem dX8_pushed_45 : decode cX8_pushed 45 = .ok (.invokevirtual 63, 3) := by decide +kernel
theorem dX8_pushed_48 : decode cX8_pushed 48 = .ok (.ireturn, 1) := by decide +kernel
theorem dX8_pushed_49 : decode cX8_pushed 49 = .ok (.aload_n 0, 1) := by decide +kernel
theorem dX8_pushed_50 : decode cX8_pushed 50 = .ok (.aload_n 0, 1) := by decide +kernel
theorem dX8_pushed_51 : decode cX8_pushed 51 = .ok (.getfield 44, 3) := by decide +kernel
theorem dX8_pushed_54 : decode cX8_pushed 54 = .ok (.getfield 305, 3) := by decide +kernel
theorem dX8_pushed_57 : decode cX8_pushed 57 = .ok (.iload_n 3, 1) := by decide +kernel
theorem dX8_pushed_58 : decode cX8_pushed 58 = .ok (.iaload, 1) := by decide +kernel
theorem dX8_pushed_59 : decode cX8_pushed 59 = .ok (.invokevirtual 99, 3) := by decide +kernel
theorem dX8_pushed_62 : decode cX8_pushed 62 = .ok (.ireturn, 1) := by decide +kernel
theorem dX8_foretold_0 : decode cX8_foretold 0 = .ok (.aload_n 0, 1) := by decide +kernel
theorem dX8_foretold_1 : decode cX8_foretold 1 = .ok (.getfield 85, 3) := by decide +kernel
theorem dX8_foretold_4 : decode cX8_foretold 4 = .ok (.ifCond .eq 12, 3) := by decide +kernel
theorem dX8_foretold_7 : decode cX8_foretold 7 = .ok (.iload_n 3, 1) := by decide +kernel
theorem dX8_foretold_8 : decode cX8_foretold 8 = .ok (.ifCond .lt 8, 3) := by decide +kernel
theorem dX8_foretold_11 : decode cX8_foretold 11 = .ok (.iload_n 3, 1) := by decide +kernel
theorem dX8_foretold_12 : decode cX8_foretold 12 = .ok (.iconst 2, 1) := by decide +kernel
theorem dX8_foretold_13 : decode cX8_foretold 13 = .ok (.if_icmp .le 9, 3) := by decide +kernel
theorem dX8_foretold_16 : decode cX8_foretold 16 = .ok (.aload_n 0, 1) := by decide +kernel
theorem dX8_foretold_17 : decode cX8_foretold 17 = .ok (.iconst 1, 1) := by decide +kernel
theorem dX8_foretold_18 : decode cX8_foretold 18 = .ok (.invokevirtual 63, 3) := by decide +kernel
theorem dX8_foretold_21 : decode cX8_foretold 21 = .ok (.ireturn, 1) := by decide +kernel
theorem dX8_foretold_22 : decode cX8_foretold 22 = .ok (.iload_n 1, 1) := by decide +kernel
theorem dX8_foretold_23 : decode cX8_foretold 23 = .ok (.invokestatic 277, 3) := by decide +kernel
theorem dX8_foretold_26 : decode cX8_foretold 26 = .ok (.ifCond .ne 13, 3) := by decide +kernel
theorem dX8_foretold_29 : decode cX8_foretold 29 = .ok (.iload_n 2, 1) := by decide +kernel
theorem dX8_foretold_30 : decode cX8_foretold 30 = .ok (.iconst 1, 1) := by decide +kernel
theorem dX8_foretold_31 : decode cX8_foretold 31 = .ok (.if_icmp .lt 8, 3) := by decide +kernel
theorem dX8_foretold_34 : decode cX8_foretold 34 = .ok (.iload_n 2, 1) := by decide +kernel
theorem dX8_foretold_35 : decode cX8_foretold 35 = .ok (.iconst 4, 1) := by decide +kernel
theorem dX8_foretold_36 : decode cX8_foretold 36 = .ok (.if_icmp .le 9, 3) := by decide +kernel
theorem dX8_foretold_39 : decode cX8_foretold 39 = .ok (.aload_n 0, 1) := by decide +kernel
theorem dX8_foretold_40 : decode cX8_foretold 40 = .ok (.iconst 2, 1) := by decide +kernel
theorem dX8_foretold_41 : decode cX8_foretold 41 = .ok (.invokevirtual 63, 3) := by decide +kernel
theorem dX8_foretold_44 : decode cX8_foretold 44 = .ok (.ireturn, 1) := by decide +kernel
theorem dX8_foretold_45 : decode cX8_foretold 45 = .ok (.aload_n 0, 1) := by decide +kernel
theorem dX8_foretold_46 : decode cX8_foretold 46 = .ok (.iload_n 1, 1) := by decide +kernel
theorem dX8_foretold_47 : decode cX8_foretold 47 = .ok (.iload_n 2, 1) := by decide +kernel
theorem dX8_foretold_48 : decode cX8_foretold 48 = .ok (.invokevirtual 308, 3) := by decide +kernel
theorem dX8_foretold_51 : decode cX8_foretold 51 = .ok (.aload_n 0, 1) := by decide +kernel
theorem dX8_foretold_52 : decode cX8_foretold 52 = .ok (.aload_n 0, 1) := by decide +kernel
theorem dX8_foretold_53 : decode cX8_foretold 53 = .ok (.getfield 44, 3) := by decide +kernel
theorem dX8_foretold_56 : decode cX8_foretold 56 = .ok (.getfield 270, 3) := by decide +kernel
theorem dX8_foretold_59 : decode cX8_foretold 59 = .ok (.iload_n 3, 1) := by decide +kernel
theorem dX8_foretold_60 : decode cX8_foretold 60 = .ok (.iaload, 1) := by decide +kernel
theorem dX8_foretold_61 : decode cX8_foretold 61 = .ok (.invokevirtual 99, 3) := by decide +kernel
theorem dX8_foretold_64 : decode cX8_foretold 64 = .ok (.ireturn, 1) := by decide +kernel
theorem dX8_enough_0 : decode cX8_enough 0 = .ok (.aload_n 0, 1) := by decide +kernel
theorem dX8_enough_1 : decode cX8_enough 1 = .ok (.getfield 85, 3) := by decide +kernel
theorem dX8_enough_4 : decode cX8_enough 4 = .ok (.ifCond .ne 9, 3) := by decide +kernel
theorem dX8_enough_7 : decode cX8_enough 7 = .ok (.aload_n 0, 1) := by decide +kernel
theorem dX8_enough_8 : decode cX8_enough 8 = .ok (.iconst 1, 1) := by decide +kernel
theorem dX8_enough_9 : decode cX8_enough 9 = .ok (.invokevirtual 63, 3) := by decide +kernel
theorem dX8_enough_12 : decode cX8_enough 12 = .ok (.ireturn, 1) := by decide +kernel
theorem dX8_enough_13 : decode cX8_enough 13 = .ok (.iconst 1, 1) := by decide +kernel
theorem dX8_enough_14 : decode cX8_enough 14 = .ok (.istore_n 1, 1) := by decide +kernel
theorem dX8_enough_15 : decode cX8_enough 15 = .ok (.iload_n 1, 1) := by decide +kernel
theorem dX8_enough_16 : decode cX8_enough 16 = .ok (.bipush 24, 2) := by decide +kernel
theorem dX8_enough_18 : decode cX8_enough 18 = .ok (.if_icmp .gt 39, 3) := by decide +kernel
theorem dX8_enough_21 : decode cX8_enough 21 = .ok (.aload_n 0, 1) := by decide +kernel
theorem dX8_enough_22 : decode cX8_enough 22 = .ok (.iload_n 1, 1) := by decide +kernel
theorem dX8_enough_23 : decode cX8_enough 23 = .ok (.aload_n 0, 1) := by decide +kernel
theorem dX8_enough_24 : decode cX8_enough 24 = .ok (.getfield 16, 3) := by decide +kernel
theorem dX8_enough_27 : decode cX8_enough 27 = .ok (.getfield 311, 3) := by decide +kernel
theorem dX8_enough_30 : decode cX8_enough 30 = .ok (.invokevirtual 308, 3) := by decide +kernel
theorem dX8_enough_33 : decode cX8_enough 33 = .ok (.aload_n 0, 1) := by decide +kernel
theorem dX8_enough_34 : decode cX8_enough 34 = .ok (.getfield 44, 3) := by decide +kernel
theorem dX8_enough_37 : decode cX8_enough 37 = .ok (.getfield 270, 3) := by decide +kernel
theorem dX8_enough_40 : decode cX8_enough 40 = .ok (.iconst 1, 1) := by decide +kernel
theorem dX8_enough_41 : decode cX8_enough 41 = .ok (.iaload, 1) := by decide +kernel
theorem dX8_enough_42 : decode cX8_enough 42 = .ok (.ifCond .ne 9, 3) := by decide +kernel
theorem dX8_enough_45 : decode cX8_enough 45 = .ok (.aload_n 0, 1) := by decide +kernel
theorem dX8_enough_46 : decode cX8_enough 46 = .ok (.iload_n 1, 1) := by decide +kernel
theorem dX8_enough_47 : decode cX8_enough 47 = .ok (.invokevirtual 99, 3) := by decide +kernel
theorem dX8_enough_50 : decode cX8_enough 50 = .ok (.ireturn, 1) := by decide +kernel
theorem dX8_enough_51 : decode cX8_enough 51 = .ok (.iinc 1 1, 3) := by decide +kernel
theorem dX8_enough_54 : decode cX8_enough 54 = .ok (.goto (-39), 3) := by decide +kernel
theorem dX8_enough_57 : decode cX8_enough 57 = .ok (.aload_n 0, 1) := by decide +kernel
theorem dX8_enough_58 : decode cX8_enough 58 = .ok (.bipush (-2), 2) := by decide +kernel
theorem dX8_enough_60 : decode cX8_enough 60 = .ok (.invokevirtual 99, 3) := by decide +kernel
theorem dX8_enough_63 : decode cX8_enough 63 = .ok (.ireturn, 1) := by decide +kernel
theorem dX8_op_0 : decode cX8_op 0 = .ok (.aload_n 0, 1) := by decide +kernel
theorem dX8_op_1 : decode cX8_op 1 = .ok (.iload_n 1, 1) := by decide +kernel
theorem dX8_op_2 : decode cX8_op 2 = .ok (.invokevirtual 312, 3) := by decide +kernel
theorem dX8_op_5 : decode cX8_op 5 = .ok (.ifCond .eq 9, 3) := by decide +kernel
theorem dX8_op_8 : decode cX8_op 8 = .ok (.aload_n 0, 1) := by decide +kernel
theorem dX8_op_9 : decode cX8_op 9 = .ok (.iconst 1, 1) := by decide +kernel
theorem dX8_op_10 : decode cX8_op 10 = .ok (.invokevirtual 63, 3) := by decide +kernel
theorem dX8_op_13 : decode cX8_op 13 = .ok (.ireturn, 1) := by decide +kernel
theorem dX8_op_14 : decode cX8_op 14 = .ok (.iload_n 2, 1) := by decide +kernel
theorem dX8_op_15 : decode cX8_op 15 = .ok (.tableswitch 67 0 2 #[25, 39, 53], 25) := by decide +kernel
theorem dX8_op_40 : decode cX8_op 40 = .ok (.aload_n 0, 1) := by decide +kernel
theorem dX8_op_41 : decode cX8_op 41 = .ok (.aload_n 0, 1) := by decide +kernel
theorem dX8_op_42 : decode cX8_op 42 = .ok (.getfield 16, 3) := by decide +kernel
theorem dX8_op_45 : decode cX8_op 45 = .ok (.getfield 315, 3) := by decide +kernel
theorem dX8_op_48 : decode cX8_op 48 = .ok (.iload_n 1, 1) := by decide +kernel
theorem dX8_op_49 : decode cX8_op 49 = .ok (.iaload, 1) := by decide +kernel
theorem dX8_op_50 : decode cX8_op 50 = .ok (.invokevirtual 99, 3) := by decide +kernel
theorem dX8_op_53 : decode cX8_op 53 = .ok (.ireturn, 1) := by decide +kernel
theorem dX8_op_54 : decode cX8_op 54 = .ok (.aload_n 0, 1) := by decide +kernel
theorem dX8_op_55 : decode cX8_op 55 = .ok (.aload_n 0, 1) := by decide +kernel
theorem dX8_op_56 : decode cX8_op 56 = .ok (.getfield 16, 3) := by decide +kernel
theorem dX8_op_59 : decode cX8_op 59 = .ok (.getfield 318, 3) := by decide +kernel
theorem dX8_op_62 : decode cX8_op 62 = .ok (.iload_n 1, 1) := by decide +kernel
theorem dX8_op_63 : decode cX8_op 63 = .ok (.iaload, 1) := by decide +kernel
theorem dX8_op_64 : decode cX8_op 64 = .ok (.invokevirtual 99, 3) := by decide +kernel
theorem dX8_op_67 : decode cX8_op 67 = .ok (.ireturn, 1) := by decide +kernel
theorem dX8_op_68 : decode cX8_op 68 = .ok (.aload_n 0, 1) := by decide +kernel
theorem dX8_op_69 : decode cX8_op 69 = .ok (.aload_n 0, 1) := by decide +kernel
theorem dX8_op_70 : decode cX8_op 70 = .ok (.getfield 16, 3) := by decide +kernel
theorem dX8_op_73 : decode cX8_op 73 = .ok (.getfield 321, 3) := by decide +kernel
theorem dX8_op_76 : decode cX8_op 76 = .ok (.iload_n 1, 1) := by decide +kernel
theorem dX8_op_77 : decode cX8_op 77 = .ok (.iaload, 1) := by decide +kernel
theorem dX8_op_78 : decode cX8_op 78 = .ok (.invokevirtual 99, 3) := by decide +kernel
theorem dX8_op_81 : decode cX8_op 81 = .ok (.ireturn, 1) := by decide +kernel
theorem dX8_op_82 : decode cX8_op 82 = .ok (.aload_n 0, 1) := by decide +kernel
theorem dX8_op_83 : decode cX8_op 83 = .ok (.iconst 1, 1) := by decide +kernel
theorem dX8_op_84 : decode cX8_op 84 = .ok (.invokevirtual 63, 3) := by decide +kernel
theorem dX8_op_87 : decode cX8_op 87 = .ok (.ireturn, 1) := by decide +kernel
theorem dX8_store_0 : decode cX8_store 0 = .ok (.aload_n 0, 1) := by decide +kernel
theorem dX8_store_1 : decode cX8_store 1 = .ok (.iload_n 1, 1) := by decide +kernel
theorem dX8_store_2 : decode cX8_store 2 = .ok (.invokevirtual 247, 3) := by decide +kernel
theorem dX8_store_5 : decode cX8_store 5 = .ok (.ifCond .ne 11, 3) := by decide +kernel
theorem dX8_store_8 : decode cX8_store 8 = .ok (.aload_n 0, 1) := by decide +kernel
theorem dX8_store_9 : decode cX8_store 9 = .ok (.iload_n 2, 1) := by decide +kernel
theorem dX8_store_10 : decode cX8_store 10 = .ok (.invokevirtual 141, 3) := by decide +kernel
theorem dX8_store_13 : decode cX8_store 13 = .ok (.ifCond .eq 9, 3) := by decide +kernel
theorem dX8_store_16 : decode cX8_store 16 = .ok (.aload_n 0, 1) := by decide +kernel
theorem dX8_store_17 : decode cX8_store 17 = .ok (.iconst 1, 1) := by decide +kernel
theorem dX8_store_18 : decode cX8_store 18 = .ok (.invokevirtual 63, 3) := by decide +kernel
theorem dX8_store_21 : decode cX8_store 21 = .ok (.ireturn, 1) := by decide +kernel
theorem dX8_store_22 : decode cX8_store 22 = .ok (.aload_n 0, 1) := by decide +kernel
theorem dX8_store_23 : decode cX8_store 23 = .ok (.getfield 51, 3) := by decide +kernel
theorem dX8_store_26 : decode cX8_store 26 = .ok (.aload_n 0, 1) := by decide +kernel
theorem dX8_store_27 : decode cX8_store 27 = .ok (.getfield 37, 3) := by decide +kernel
theorem dX8_store_30 : decode cX8_store 30 = .ok (.invokevirtual 324, 3) := by decide +kernel
theorem dX8_store_33 : decode cX8_store 33 = .ok (.aload_n 0, 1) := by decide +kernel
theorem dX8_store_34 : decode cX8_store 34 = .ok (.getfield 37, 3) := by decide +kernel
theorem dX8_store_37 : decode cX8_store 37 = .ok (.getfield 105, 3) := by decide +kernel
theorem dX8_store_40 : decode cX8_store 40 = .ok (.iload_n 1, 1) := by decide +kernel
theorem dX8_store_41 : decode cX8_store 41 = .ok (.aload_n 0, 1) := by decide +kernel
theorem dX8_store_42 : decode cX8_store 42 = .ok (.getfield 37, 3) := by decide +kernel
theorem dX8_store_45 : decode cX8_store 45 = .ok (.getfield 148, 3) := by decide +kernel
theorem dX8_store_48 : decode cX8_store 48 = .ok (.iload_n 2, 1) := by decide +kernel
theorem dX8_store_49 : decode cX8_store 49 = .ok (.bipush 16, 2) := by decide +kernel
theorem dX8_store_51 : decode cX8_store 51 = .ok (.imul, 1) := by decide +kernel
theorem dX8_store_52 : decode cX8_store 52 = .ok (.aload_n 0, 1) := by decide +kernel
theorem dX8_store_53 : decode cX8_store 53 = .ok (.getfield 37, 3) := by decide +kernel
theorem dX8_store_56 : decode cX8_store 56 = .ok (.getfield 151, 3) := by decide +kernel
theorem dX8_store_59 : decode cX8_store 59 = .ok (.iload_n 2, 1) := by decide +kernel
theorem dX8_store_60 : decode cX8_store 60 = .ok (.iaload, 1) := by decide +kernel
theorem dX8_store_61 : decode cX8_store 61 = .ok (.invokevirtual 328, 3) := by decide +kernel
theorem dX8_store_64 : decode cX8_store 64 = .ok (.aload_n 0, 1) := by decide +kernel
theorem dX8_store_65 : decode cX8_store 65 = .ok (.aload_n 0, 1) := by decide +kernel
theorem dX8_store_66 : decode cX8_store 66 = .ok (.getfield 37, 3) := by decide +kernel
theorem dX8_store_69 : decode cX8_store 69 = .ok (.getfield 105, 3) := by decide +kernel
theorem dX8_store_72 : decode cX8_store 72 = .ok (.getfield 250, 3) := by decide +kernel
theorem dX8_store_75 : decode cX8_store 75 = .ok (.iload_n 1, 1) := by decide +kernel
theorem dX8_store_76 : decode cX8_store 76 = .ok (.iaload, 1) := by decide +kernel
theorem dX8_store_77 : decode cX8_store 77 = .ok (.invokevirtual 99, 3) := by decide +kernel
theorem dX8_store_80 : decode cX8_store 80 = .ok (.ireturn, 1) := by decide +kernel
theorem dX8_load_0 : decode cX8_load 0 = .ok (.aload_n 0, 1) := by decide +kernel
theorem dX8_load_1 : decode cX8_load 1 = .ok (.iload_n 1, 1) := by decide +kernel
theorem dX8_load_2 : decode cX8_load 2 = .ok (.invokevirtual 247, 3) := by decide +kernel
theorem dX8_load_5 : decode cX8_load 5 = .ok (.ifCond .eq 9, 3) := by decide +kernel
theorem dX8_load_8 : decode cX8_load 8 = .ok (.aload_n 0, 1) := by decide +kernel
theorem dX8_load_9 : decode cX8_load 9 = .ok (.iconst 1, 1) := by decide +kernel
theorem dX8_load_10 : decode cX8_load 10 = .ok (.invokevirtual 63, 3) := by decide +kernel
theorem dX8_load_13 : decode cX8_load 13 = .ok (.ireturn, 1) := by decide +kernel
theorem dX8_load_14 : decode cX8_load 14 = .ok (.aload_n 0, 1) := by decide +kernel
theorem dX8_load_15 : decode cX8_load 15 = .ok (.getfield 37, 3) := by decide +kernel
theorem dX8_load_18 : decode cX8_load 18 = .ok (.getfield 105, 3) := by decide +kernel
theorem dX8_load_21 : decode cX8_load 21 = .ok (.getfield 250, 3) := by decide +kernel
theorem dX8_load_24 : decode cX8_load 24 = .ok (.iload_n 1, 1) := by decide +kernel
theorem dX8_load_25 : decode cX8_load 25 = .ok (.iaload, 1) := by decide +kernel
theorem dX8_load_26 : decode cX8_load 26 = .ok (.ifCond .ne 9, 3) := by decide +kernel
theorem dX8_load_29 : decode cX8_load 29 = .ok (.aload_n 0, 1) := by decide +kernel
theorem dX8_load_30 : decode cX8_load 30 = .ok (.iconst 5, 1) := by decide +kernel
theorem dX8_load_31 : decode cX8_load 31 = .ok (.invokevirtual 63, 3) := by decide +kernel
theorem dX8_load_34 : decode cX8_load 34 = .ok (.ireturn, 1) := by decide +kernel
theorem dX8_load_35 : decode cX8_load 35 = .ok (.aload_n 0, 1) := by decide +kernel
theorem dX8_load_36 : decode cX8_load 36 = .ok (.getfield 51, 3) := by decide +kernel
theorem dX8_load_39 : decode cX8_load 39 = .ok (.aload_n 0, 1) := by decide +kernel
theorem dX8_load_40 : decode cX8_load 40 = .ok (.getfield 37, 3) := by decide +kernel
theorem dX8_load_43 : decode cX8_load 43 = .ok (.invokevirtual 324, 3) := by decide +kernel
theorem dX8_load_46 : decode cX8_load 46 = .ok (.aload_n 0, 1) := by decide +kernel
theorem dX8_load_47 : decode cX8_load 47 = .ok (.getfield 37, 3) := by decide +kernel
theorem dX8_load_50 : decode cX8_load 50 = .ok (.getfield 105, 3) := by decide +kernel
theorem dX8_load_53 : decode cX8_load 53 = .ok (.iload_n 1, 1) := by decide +kernel
theorem dX8_load_54 : decode cX8_load 54 = .ok (.invokevirtual 332, 3) := by decide +kernel
theorem dX8_load_57 : decode cX8_load 57 = .ok (.aload_n 0, 1) := by decide +kernel
theorem dX8_load_58 : decode cX8_load 58 = .ok (.aload_n 0, 1) := by decide +kernel
theorem dX8_load_59 : decode cX8_load 59 = .ok (.getfield 37, 3) := by decide +kernel
theorem dX8_load_62 : decode cX8_load 62 = .ok (.getfield 105, 3) := by decide +kernel
theorem dX8_load_65 : decode cX8_load 65 = .ok (.getfield 250, 3) := by decide +kernel
theorem dX8_load_68 : decode cX8_load 68 = .ok (.iload_n 1, 1) := by decide +kernel
theorem dX8_load_69 : decode cX8_load 69 = .ok (.iaload, 1) := by decide +kernel
theorem dX8_load_70 : decode cX8_load 70 = .ok (.invokevirtual 99, 3) := by decide +kernel
theorem dX8_load_73 : decode cX8_load 73 = .ok (.ireturn, 1) := by decide +kernel
theorem dX8_drop_0 : decode cX8_drop 0 = .ok (.aload_n 0, 1) := by decide +kernel
theorem dX8_drop_1 : decode cX8_drop 1 = .ok (.iload_n 1, 1) := by decide +kernel
theorem dX8_drop_2 : decode cX8_drop 2 = .ok (.invokevirtual 247, 3) := by decide +kernel
theorem dX8_drop_5 : decode cX8_drop 5 = .ok (.ifCond .eq 9, 3) := by decide +kernel
theorem dX8_drop_8 : decode cX8_drop 8 = .ok (.aload_n 0, 1) := by decide +kernel
theorem dX8_drop_9 : decode cX8_drop 9 = .ok (.iconst 1, 1) := by decide +kernel
theorem dX8_drop_10 : decode cX8_drop 10 = .ok (.invokevirtual 63, 3) := by decide +kernel
theorem dX8_drop_13 : decode cX8_drop 13 = .ok (.ireturn, 1) := by decide +kernel
theorem dX8_drop_14 : decode cX8_drop 14 = .ok (.aload_n 0, 1) := by decide +kernel
theorem dX8_drop_15 : decode cX8_drop 15 = .ok (.getfield 37, 3) := by decide +kernel
theorem dX8_drop_18 : decode cX8_drop 18 = .ok (.getfield 105, 3) := by decide +kernel
theorem dX8_drop_21 : decode cX8_drop 21 = .ok (.getfield 250, 3) := by decide +kernel
theorem dX8_drop_24 : decode cX8_drop 24 = .ok (.iload_n 1, 1) := by decide +kernel
theorem dX8_drop_25 : decode cX8_drop 25 = .ok (.iaload, 1) := by decide +kernel
theorem dX8_drop_26 : decode cX8_drop 26 = .ok (.istore_n 2, 1) := by decide +kernel
theorem dX8_drop_27 : decode cX8_drop 27 = .ok (.iload_n 2, 1) := by decide +kernel
theorem dX8_drop_28 : decode cX8_drop 28 = .ok (.ifCond .ne 9, 3) := by decide +kernel
theorem dX8_drop_31 : decode cX8_drop 31 = .ok (.aload_n 0, 1) := by decide +kernel
theorem dX8_drop_32 : decode cX8_drop 32 = .ok (.iconst 5, 1) := by decide +kernel
theorem dX8_drop_33 : decode cX8_drop 33 = .ok (.invokevirtual 63, 3) := by decide +kernel
theorem dX8_drop_36 : decode cX8_drop 36 = .ok (.ireturn, 1) := by decide +kernel
theorem dX8_drop_37 : decode cX8_drop 37 = .ok (.aload_n 0, 1) := by decide +kernel
theorem dX8_drop_38 : decode cX8_drop 38 = .ok (.getfield 51, 3) := by decide +kernel
theorem dX8_drop_41 : decode cX8_drop 41 = .ok (.aload_n 0, 1) := by decide +kernel
theorem dX8_drop_42 : decode cX8_drop 42 = .ok (.getfield 37, 3) := by decide +kernel
theorem dX8_drop_45 : decode cX8_drop 45 = .ok (.invokevirtual 324, 3) := by decide +kernel
theorem dX8_drop_48 : decode cX8_drop 48 = .ok (.aload_n 0, 1) := by decide +kernel
theorem dX8_drop_49 : decode cX8_drop 49 = .ok (.getfield 37, 3) := by decide +kernel
theorem dX8_drop_52 : decode cX8_drop 52 = .ok (.getfield 105, 3) := by decide +kernel
theorem dX8_drop_55 : decode cX8_drop 55 = .ok (.iload_n 1, 1) := by decide +kernel
theorem dX8_drop_56 : decode cX8_drop 56 = .ok (.invokevirtual 335, 3) := by decide +kernel
theorem dX8_drop_59 : decode cX8_drop 59 = .ok (.aload_n 0, 1) := by decide +kernel
theorem dX8_drop_60 : decode cX8_drop 60 = .ok (.iload_n 2, 1) := by decide +kernel
theorem dX8_drop_61 : decode cX8_drop 61 = .ok (.invokevirtual 99, 3) := by decide +kernel
theorem dX8_drop_64 : decode cX8_drop 64 = .ok (.ireturn, 1) := by decide +kernel
theorem dX8_hold_0 : decode cX8_hold 0 = .ok (.aload_n 0, 1) := by decide +kernel
theorem dX8_hold_1 : decode cX8_hold 1 = .ok (.iload_n 1, 1) := by decide +kernel
theorem dX8_hold_2 : decode cX8_hold 2 = .ok (.invokevirtual 247, 3) := by decide +kernel
theorem dX8_hold_5 : decode cX8_hold 5 = .ok (.ifCond .eq 9, 3) := by decide +kernel
theorem dX8_hold_8 : decode cX8_hold 8 = .ok (.aload_n 0, 1) := by decide +kernel
theorem dX8_hold_9 : decode cX8_hold 9 = .ok (.iconst 1, 1) := by decide +kernel
theorem dX8_hold_10 : decode cX8_hold 10 = .ok (.invokevirtual 338, 3) := by decide +kernel
theorem dX8_hold_13 : decode cX8_hold 13 = .ok (.ireturn, 1) := by decide +kernel
theorem dX8_hold_14 : decode cX8_hold 14 = .ok (.aload_n 0, 1) := by decide +kernel
theorem dX8_hold_15 : decode cX8_hold 15 = .ok (.getfield 37, 3) := by decide +kernel
theorem dX8_hold_18 : decode cX8_hold 18 = .ok (.getfield 105, 3) := by decide +kernel
theorem dX8_hold_21 : decode cX8_hold 21 = .ok (.getfield 250, 3) := by decide +kernel
theorem dX8_hold_24 : decode cX8_hold 24 = .ok (.iload_n 1, 1) := by decide +kernel
theorem dX8_hold_25 : decode cX8_hold 25 = .ok (.iaload, 1) := by decide +kernel
theorem dX8_hold_26 : decode cX8_hold 26 = .ok (.iconst 2, 1) := by decide +kernel
theorem dX8_hold_27 : decode cX8_hold 27 = .ok (.if_icmp .ne 18, 3) := by decide +kernel
theorem dX8_hold_30 : decode cX8_hold 30 = .ok (.aload_n 0, 1) := by decide +kernel
theorem dX8_hold_31 : decode cX8_hold 31 = .ok (.getfield 37, 3) := by decide +kernel
theorem dX8_hold_34 : decode cX8_hold 34 = .ok (.getfield 105, 3) := by decide +kernel
theorem dX8_hold_37 : decode cX8_hold 37 = .ok (.getfield 263, 3) := by decide +kernel
theorem dX8_hold_40 : decode cX8_hold 40 = .ok (.iload_n 1, 1) := by decide +kernel
theorem dX8_hold_41 : decode cX8_hold 41 = .ok (.iaload, 1) := by decide +kernel
theorem dX8_hold_42 : decode cX8_hold 42 = .ok (.ifCond .eq 9, 3) := by decide +kernel
theorem dX8_hold_45 : decode cX8_hold 45 = .ok (.aload_n 0, 1) := by decide +kernel
theorem dX8_hold_46 : decode cX8_hold 46 = .ok (.iconst 5, 1) := by decide +kernel
theorem dX8_hold_47 : decode cX8_hold 47 = .ok (.invokevirtual 338, 3) := by decide +kernel
theorem dX8_hold_50 : decode cX8_hold 50 = .ok (.ireturn, 1) := by decide +kernel
theorem dX8_hold_51 : decode cX8_hold 51 = .ok (.aload_n 0, 1) := by decide +kernel
theorem dX8_hold_52 : decode cX8_hold 52 = .ok (.getfield 51, 3) := by decide +kernel
theorem dX8_hold_55 : decode cX8_hold 55 = .ok (.aload_n 0, 1) := by decide +kernel
theorem dX8_hold_56 : decode cX8_hold 56 = .ok (.getfield 37, 3) := by decide +kernel
theorem dX8_hold_59 : decode cX8_hold 59 = .ok (.invokevirtual 324, 3) := by decide +kernel
theorem dX8_hold_62 : decode cX8_hold 62 = .ok (.aload_n 0, 1) := by decide +kernel
theorem dX8_hold_63 : decode cX8_hold 63 = .ok (.getfield 37, 3) := by decide +kernel
theorem dX8_hold_66 : decode cX8_hold 66 = .ok (.getfield 105, 3) := by decide +kernel
theorem dX8_hold_69 : decode cX8_hold 69 = .ok (.getfield 263, 3) := by decide +kernel
theorem dX8_hold_72 : decode cX8_hold 72 = .ok (.iload_n 1, 1) := by decide +kernel
theorem dX8_hold_73 : decode cX8_hold 73 = .ok (.iconst 1, 1) := by decide +kernel
theorem dX8_hold_74 : decode cX8_hold 74 = .ok (.iastore, 1) := by decide +kernel
theorem dX8_hold_75 : decode cX8_hold 75 = .ok (.aload_n 0, 1) := by decide +kernel
theorem dX8_hold_76 : decode cX8_hold 76 = .ok (.invokevirtual 341, 3) := by decide +kernel
theorem dX8_hold_79 : decode cX8_hold 79 = .ok (.ireturn, 1) := by decide +kernel
theorem dX8_release_0 : decode cX8_release 0 = .ok (.aload_n 0, 1) := by decide +kernel
theorem dX8_release_1 : decode cX8_release 1 = .ok (.iload_n 1, 1) := by decide +kernel
theorem dX8_release_2 : decode cX8_release 2 = .ok (.invokevirtual 247, 3) := by decide +kernel
theorem dX8_release_5 : decode cX8_release 5 = .ok (.ifCond .eq 9, 3) := by decide +kernel
theorem dX8_release_8 : decode cX8_release 8 = .ok (.aload_n 0, 1) := by decide +kernel
theorem dX8_release_9 : decode cX8_release 9 = .ok (.iconst 1, 1) := by decide +kernel
theorem dX8_release_10 : decode cX8_release 10 = .ok (.invokevirtual 338, 3) := by decide +kernel
theorem dX8_release_13 : decode cX8_release 13 = .ok (.ireturn, 1) := by decide +kernel
theorem dX8_release_14 : decode cX8_release 14 = .ok (.aload_n 0, 1) := by decide +kernel
theorem dX8_release_15 : decode cX8_release 15 = .ok (.getfield 37, 3) := by decide +kernel
theorem dX8_release_18 : decode cX8_release 18 = .ok (.getfield 105, 3) := by decide +kernel
theorem dX8_release_21 : decode cX8_release 21 = .ok (.getfield 263, 3) := by decide +kernel
theorem dX8_release_24 : decode cX8_release 24 = .ok (.iload_n 1, 1) := by decide +kernel
theorem dX8_release_25 : decode cX8_release 25 = .ok (.iaload, 1) := by decide +kernel
theorem dX8_release_26 : decode cX8_release 26 = .ok (.ifCond .ne 9, 3) := by decide +kernel
theorem dX8_release_29 : decode cX8_release 29 = .ok (.aload_n 0, 1) := by decide +kernel
theorem dX8_release_30 : decode cX8_release 30 = .ok (.iconst 5, 1) := by decide +kernel
theorem dX8_release_31 : decode cX8_release 31 = .ok (.invokevirtual 338, 3) := by decide +kernel
theorem dX8_release_34 : decode cX8_release 34 = .ok (.ireturn, 1) := by decide +kernel
theorem dX8_release_35 : decode cX8_release 35 = .ok (.aload_n 0, 1) := by decide +kernel
theorem dX8_release_36 : decode cX8_release 36 = .ok (.getfield 51, 3) := by decide +kernel
theorem dX8_release_39 : decode cX8_release 39 = .ok (.aload_n 0, 1) := by decide +kernel
theorem dX8_release_40 : decode cX8_release 40 = .ok (.getfield 37, 3) := by decide +kernel
theorem dX8_release_43 : decode cX8_release 43 = .ok (.invokevirtual 324, 3) := by decide +kernel
theorem dX8_release_46 : decode cX8_release 46 = .ok (.aload_n 0, 1) := by decide +kernel
theorem dX8_release_47 : decode cX8_release 47 = .ok (.getfield 37, 3) := by decide +kernel
theorem dX8_release_50 : decode cX8_release 50 = .ok (.getfield 105, 3) := by decide +kernel
theorem dX8_release_53 : decode cX8_release 53 = .ok (.getfield 263, 3) := by decide +kernel
theorem dX8_release_56 : decode cX8_release 56 = .ok (.iload_n 1, 1) := by decide +kernel
theorem dX8_release_57 : decode cX8_release 57 = .ok (.iconst 0, 1) := by decide +kernel
theorem dX8_release_58 : decode cX8_release 58 = .ok (.iastore, 1) := by decide +kernel
theorem dX8_release_59 : decode cX8_release 59 = .ok (.aload_n 0, 1) := by decide +kernel
theorem dX8_release_60 : decode cX8_release 60 = .ok (.invokevirtual 341, 3) := by decide +kernel
theorem dX8_release_63 : decode cX8_release 63 = .ok (.ireturn, 1) := by decide +kernel
theorem dX8_poke_0 : decode cX8_poke 0 = .ok (.aload_n 0, 1) := by decide +kernel
theorem dX8_poke_1 : decode cX8_poke 1 = .ok (.iload_n 1, 1) := by decide +kernel
theorem dX8_poke_2 : decode cX8_poke 2 = .ok (.invokevirtual 141, 3) := by decide +kernel
theorem dX8_poke_5 : decode cX8_poke 5 = .ok (.ifCond .ne 10, 3) := by decide +kernel
theorem dX8_poke_8 : decode cX8_poke 8 = .ok (.iload_n 2, 1) := by decide +kernel
theorem dX8_poke_9 : decode cX8_poke 9 = .ok (.invokestatic 145, 3) := by decide +kernel
theorem dX8_poke_12 : decode cX8_poke 12 = .ok (.ifCond .eq 9, 3) := by decide +kernel
theorem dX8_poke_15 : decode cX8_poke 15 = .ok (.aload_n 0, 1) := by decide +kernel
theorem dX8_poke_16 : decode cX8_poke 16 = .ok (.iconst 1, 1) := by decide +kernel
theorem dX8_poke_17 : decode cX8_poke 17 = .ok (.invokevirtual 63, 3) := by decide +kernel
theorem dX8_poke_20 : decode cX8_poke 20 = .ok (.ireturn, 1) := by decide +kernel
theorem dX8_poke_21 : decode cX8_poke 21 = .ok (.iload_n 3, 1) := by decide +kernel
theorem dX8_poke_22 : decode cX8_poke 22 = .ok (.ifCond .lt 9, 3) := by decide +kernel
theorem dX8_poke_25 : decode cX8_poke 25 = .ok (.iload_n 3, 1) := by decide +kernel
theorem dX8_poke_26 : decode cX8_poke 26 = .ok (.bipush 99, 2) := by decide +kernel
theorem dX8_poke_28 : decode cX8_poke 28 = .ok (.if_icmp .le 9, 3) := by decide +kernel
theorem dX8_poke_31 : decode cX8_poke 31 = .ok (.aload_n 0, 1) := by decide +kernel
theorem dX8_poke_32 : decode cX8_poke 32 = .ok (.iconst 2, 1) := by decide +kernel
theorem dX8_poke_33 : decode cX8_poke 33 = .ok (.invokevirtual 63, 3) := by decide +kernel
theorem dX8_poke_36 : decode cX8_poke 36 = .ok (.ireturn, 1) := by decide +kernel
theorem dX8_poke_37 : decode cX8_poke 37 = .ok (.aload_n 0, 1) := by decide +kernel
theorem dX8_poke_38 : decode cX8_poke 38 = .ok (.getfield 51, 3) := by decide +kernel
theorem dX8_poke_41 : decode cX8_poke 41 = .ok (.aload_n 0, 1) := by decide +kernel
theorem dX8_poke_42 : decode cX8_poke 42 = .ok (.getfield 37, 3) := by decide +kernel
theorem dX8_poke_45 : decode cX8_poke 45 = .ok (.invokevirtual 324, 3) := by decide +kernel
theorem dX8_poke_48 : decode cX8_poke 48 = .ok (.aload_n 0, 1) := by decide +kernel
theorem dX8_poke_49 : decode cX8_poke 49 = .ok (.getfield 37, 3) := by decide +kernel
theorem dX8_poke_52 : decode cX8_poke 52 = .ok (.getfield 148, 3) := by decide +kernel
theorem dX8_poke_55 : decode cX8_poke 55 = .ok (.iload_n 1, 1) := by decide +kernel
theorem dX8_poke_56 : decode cX8_poke 56 = .ok (.bipush 16, 2) := by decide +kernel
theorem dX8_poke_58 : decode cX8_poke 58 = .ok (.imul, 1) := by decide +kernel
theorem dX8_poke_59 : decode cX8_poke 59 = .ok (.iload_n 2, 1) := by decide +kernel
theorem dX8_poke_60 : decode cX8_poke 60 = .ok (.iadd, 1) := by decide +kernel
theorem dX8_poke_61 : decode cX8_poke 61 = .ok (.iaload, 1) := by decide +kernel
theorem dX8_poke_62 : decode cX8_poke 62 = .ok (.istore 4, 2) := by decide +kernel
theorem dX8_poke_64 : decode cX8_poke 64 = .ok (.aload_n 0, 1) := by decide +kernel
theorem dX8_poke_65 : decode cX8_poke 65 = .ok (.getfield 37, 3) := by decide +kernel
theorem dX8_poke_68 : decode cX8_poke 68 = .ok (.getfield 148, 3) := by decide +kernel
theorem dX8_poke_71 : decode cX8_poke 71 = .ok (.iload_n 1, 1) := by decide +kernel
theorem dX8_poke_72 : decode cX8_poke 72 = .ok (.bipush 16, 2) := by decide +kernel
theorem dX8_poke_74 : decode cX8_poke 74 = .ok (.imul, 1) := by decide +kernel
theorem dX8_poke_75 : decode cX8_poke 75 = .ok (.iload_n 2, 1) := by decide +kernel
theorem dX8_poke_76 : decode cX8_poke 76 = .ok (.iadd, 1) := by decide +kernel
theorem dX8_poke_77 : decode cX8_poke 77 = .ok (.iload_n 3, 1) := by decide +kernel
theorem dX8_poke_78 : decode cX8_poke 78 = .ok (.iastore, 1) := by decide +kernel
theorem dX8_poke_79 : decode cX8_poke 79 = .ok (.aload_n 0, 1) := by decide +kernel
theorem dX8_poke_80 : decode cX8_poke 80 = .ok (.getfield 37, 3) := by decide +kernel
theorem dX8_poke_83 : decode cX8_poke 83 = .ok (.iload_n 1, 1) := by decide +kernel
theorem dX8_poke_84 : decode cX8_poke 84 = .ok (.aload_n 0, 1) := by decide +kernel
theorem dX8_poke_85 : decode cX8_poke 85 = .ok (.getfield 30, 3) := by decide +kernel
theorem dX8_poke_88 : decode cX8_poke 88 = .ok (.invokevirtual 345, 3) := by decide +kernel
theorem dX8_poke_91 : decode cX8_poke 91 = .ok (.aload_n 0, 1) := by decide +kernel
theorem dX8_poke_92 : decode cX8_poke 92 = .ok (.iload 4, 2) := by decide +kernel
theorem dX8_poke_94 : decode cX8_poke 94 = .ok (.invokevirtual 99, 3) := by decide +kernel
theorem dX8_poke_97 : decode cX8_poke 97 = .ok (.ireturn, 1) := by decide +kernel
theorem dX8_writeBack_0 : decode cX8_writeBack 0 = .ok (.aload_n 0, 1) := by decide +kernel
theorem dX8_writeBack_1 : decode cX8_writeBack 1 = .ok (.getfield 85, 3) := by decide +kernel
theorem dX8_writeBack_4 : decode cX8_writeBack 4 = .ok (.ifCond .ne 9, 3) := by decide +kernel
theorem dX8_writeBack_7 : decode cX8_writeBack 7 = .ok (.aload_n 0, 1) := by decide +kernel
theorem dX8_writeBack_8 : decode cX8_writeBack 8 = .ok (.iconst 1, 1) := by decide +kernel
theorem dX8_writeBack_9 : decode cX8_writeBack 9 = .ok (.invokevirtual 63, 3) := by decide +kernel
theorem dX8_writeBack_12 : decode cX8_writeBack 12 = .ok (.ireturn, 1) := by decide +kernel
theorem dX8_writeBack_13 : decode cX8_writeBack 13 = .ok (.iload_n 1, 1) := by decide +kernel
theorem dX8_writeBack_14 : decode cX8_writeBack 14 = .ok (.iconst 1, 1) := by decide +kernel
theorem dX8_writeBack_15 : decode cX8_writeBack 15 = .ok (.if_icmp .lt 9, 3) := by decide +kernel
theorem dX8_writeBack_18 : decode cX8_writeBack 18 = .ok (.iload_n 1, 1) := by decide +kernel
theorem dX8_writeBack_19 : decode cX8_writeBack 19 = .ok (.bipush 30, 2) := by decide +kernel
theorem dX8_writeBack_21 : decode cX8_writeBack 21 = .ok (.if_icmp .le 9, 3) := by decide +kernel
theorem dX8_writeBack_24 : decode cX8_writeBack 24 = .ok (.aload_n 0, 1) := by decide +kernel
theorem dX8_writeBack_25 : decode cX8_writeBack 25 = .ok (.iconst 2, 1) := by decide +kernel
theorem dX8_writeBack_26 : decode cX8_writeBack 26 = .ok (.invokevirtual 63, 3) := by decide +kernel
theorem dX8_writeBack_29 : decode cX8_writeBack 29 = .ok (.ireturn, 1) := by decide +kernel
theorem dX8_writeBack_30 : decode cX8_writeBack 30 = .ok (.aload_n 0, 1) := by decide +kernel
theorem dX8_writeBack_31 : decode cX8_writeBack 31 = .ok (.getfield 51, 3) := by decide +kernel
theorem dX8_writeBack_34 : decode cX8_writeBack 34 = .ok (.aload_n 0, 1) := by decide +kernel
theorem dX8_writeBack_35 : decode cX8_writeBack 35 = .ok (.getfield 37, 3) := by decide +kernel
theorem dX8_writeBack_38 : decode cX8_writeBack 38 = .ok (.invokevirtual 324, 3) := by decide +kernel
theorem dX8_writeBack_41 : decode cX8_writeBack 41 = .ok (.aload_n 0, 1) := by decide +kernel
theorem dX8_writeBack_42 : decode cX8_writeBack 42 = .ok (.aload_n 0, 1) := by decide +kernel
theorem dX8_writeBack_43 : decode cX8_writeBack 43 = .ok (.getfield 37, 3) := by decide +kernel
theorem dX8_writeBack_46 : decode cX8_writeBack 46 = .ok (.getfield 105, 3) := by decide +kernel
theorem dX8_writeBack_49 : decode cX8_writeBack 49 = .ok (.iload_n 1, 1) := by decide +kernel
theorem dX8_writeBack_50 : decode cX8_writeBack 50 = .ok (.invokevirtual 287, 3) := by decide +kernel
theorem dX8_writeBack_53 : decode cX8_writeBack 53 = .ok (.invokevirtual 99, 3) := by decide +kernel
theorem dX8_writeBack_56 : decode cX8_writeBack 56 = .ok (.ireturn, 1) := by decide +kernel
theorem dX8_limit_0 : decode cX8_limit 0 = .ok (.aload_n 0, 1) := by decide +kernel
theorem dX8_limit_1 : decode cX8_limit 1 = .ok (.getfield 85, 3) := by decide +kernel
theorem dX8_limit_4 : decode cX8_limit 4 = .ok (.ifCond .ne 9, 3) := by decide +kernel
theorem dX8_limit_7 : decode cX8_limit 7 = .ok (.aload_n 0, 1) := by decide +kernel
theorem dX8_limit_8 : decode cX8_limit 8 = .ok (.iconst 1, 1) := by decide +kernel
theorem dX8_limit_9 : decode cX8_limit 9 = .ok (.invokevirtual 63, 3) := by decide +kernel
theorem dX8_limit_12 : decode cX8_limit 12 = .ok (.ireturn, 1) := by decide +kernel
theorem dX8_limit_13 : decode cX8_limit 13 = .ok (.iload_n 1, 1) := by decide +kernel
theorem dX8_limit_14 : decode cX8_limit 14 = .ok (.invokestatic 277, 3) := by decide +kernel
theorem dX8_limit_17 : decode cX8_limit 17 = .ok (.ifCond .eq 9, 3) := by decide +kernel
theorem dX8_limit_20 : decode cX8_limit 20 = .ok (.aload_n 0, 1) := by decide +kernel
theorem dX8_limit_21 : decode cX8_limit 21 = .ok (.iconst 2, 1) := by decide +kernel
theorem dX8_limit_22 : decode cX8_limit 22 = .ok (.invokevirtual 63, 3) := by decide +kernel
theorem dX8_limit_25 : decode cX8_limit 25 = .ok (.ireturn, 1) := by decide +kernel
theorem dX8_limit_26 : decode cX8_limit 26 = .ok (.aload_n 0, 1) := by decide +kernel
theorem dX8_limit_27 : decode cX8_limit 27 = .ok (.getfield 51, 3) := by decide +kernel
theorem dX8_limit_30 : decode cX8_limit 30 = .ok (.aload_n 0, 1) := by decide +kernel
theorem dX8_limit_31 : decode cX8_limit 31 = .ok (.getfield 37, 3) := by decide +kernel
theorem dX8_limit_34 : decode cX8_limit 34 = .ok (.invokevirtual 324, 3) := by decide +kernel
theorem dX8_limit_37 : decode cX8_limit 37 = .ok (.aload_n 0, 1) := by decide +kernel
theorem dX8_limit_38 : decode cX8_limit 38 = .ok (.aload_n 0, 1) := by decide +kernel
theorem dX8_limit_39 : decode cX8_limit 39 = .ok (.getfield 37, 3) := by decide +kernel
theorem dX8_limit_42 : decode cX8_limit 42 = .ok (.getfield 105, 3) := by decide +kernel
theorem dX8_limit_45 : decode cX8_limit 45 = .ok (.iload_n 1, 1) := by decide +kernel
theorem dX8_limit_46 : decode cX8_limit 46 = .ok (.invokevirtual 284, 3) := by decide +kernel
theorem dX8_limit_49 : decode cX8_limit 49 = .ok (.invokevirtual 99, 3) := by decide +kernel
theorem dX8_limit_52 : decode cX8_limit 52 = .ok (.ireturn, 1) := by decide +kernel
theorem dX8_compact_0 : decode cX8_compact 0 = .ok (.aload_n 0, 1) := by decide +kernel
theorem dX8_compact_1 : decode cX8_compact 1 = .ok (.getfield 85, 3) := by decide +kernel
theorem dX8_compact_4 : decode cX8_compact 4 = .ok (.ifCond .ne 9, 3) := by decide +kernel
theorem dX8_compact_7 : decode cX8_compact 7 = .ok (.aload_n 0, 1) := by decide +kernel
theorem dX8_compact_8 : decode cX8_compact 8 = .ok (.iconst 1, 1) := by decide +kernel
theorem dX8_compact_9 : decode cX8_compact 9 = .ok (.invokevirtual 63, 3) := by decide +kernel
theorem dX8_compact_12 : decode cX8_compact 12 = .ok (.ireturn, 1) := by decide +kernel
theorem dX8_compact_13 : decode cX8_compact 13 = .ok (.aload_n 0, 1) := by decide +kernel
theorem dX8_compact_14 : decode cX8_compact 14 = .ok (.getfield 51, 3) := by decide +kernel
theorem dX8_compact_17 : decode cX8_compact 17 = .ok (.aload_n 0, 1) := by decide +kernel
theorem dX8_compact_18 : decode cX8_compact 18 = .ok (.getfield 37, 3) := by decide +kernel
theorem dX8_compact_21 : decode cX8_compact 21 = .ok (.invokevirtual 324, 3) := by decide +kernel
theorem dX8_compact_24 : decode cX8_compact 24 = .ok (.aload_n 0, 1) := by decide +kernel
theorem dX8_compact_25 : decode cX8_compact 25 = .ok (.aload_n 0, 1) := by decide +kernel
theorem dX8_compact_26 : decode cX8_compact 26 = .ok (.getfield 37, 3) := by decide +kernel
theorem dX8_compact_29 : decode cX8_compact 29 = .ok (.getfield 105, 3) := by decide +kernel
theorem dX8_compact_32 : decode cX8_compact 32 = .ok (.invokevirtual 219, 3) := by decide +kernel
theorem dX8_compact_35 : decode cX8_compact 35 = .ok (.invokevirtual 99, 3) := by decide +kernel
theorem dX8_compact_38 : decode cX8_compact 38 = .ok (.ireturn, 1) := by decide +kernel
theorem dX8_run_0 : decode cX8_run 0 = .ok (.aload_n 0, 1) := by decide +kernel
theorem dX8_run_1 : decode cX8_run 1 = .ok (.iload_n 1, 1) := by decide +kernel
theorem dX8_run_2 : decode cX8_run 2 = .ok (.invokevirtual 312, 3) := by decide +kernel
theorem dX8_run_5 : decode cX8_run 5 = .ok (.ifCond .eq 9, 3) := by decide +kernel
theorem dX8_run_8 : decode cX8_run 8 = .ok (.aload_n 0, 1) := by decide +kernel
theorem dX8_run_9 : decode cX8_run 9 = .ok (.iconst 1, 1) := by decide +kernel
theorem dX8_run_10 : decode cX8_run 10 = .ok (.invokevirtual 63, 3) := by decide +kernel
theorem dX8_run_13 : decode cX8_run 13 = .ok (.ireturn, 1) := by decide +kernel
theorem dX8_run_14 : decode cX8_run 14 = .ok (.iload_n 2, 1) := by decide +kernel
theorem dX8_run_15 : decode cX8_run 15 = .ok (.iconst 1, 1) := by decide +kernel
theorem dX8_run_16 : decode cX8_run 16 = .ok (.if_icmp .lt 9, 3) := by decide +kernel
theorem dX8_run_19 : decode cX8_run 19 = .ok (.iload_n 2, 1) := by decide +kernel
theorem dX8_run_20 : decode cX8_run 20 = .ok (.bipush 24, 2) := by decide +kernel
theorem dX8_run_22 : decode cX8_run 22 = .ok (.if_icmp .le 9, 3) := by decide +kernel
theorem dX8_run_25 : decode cX8_run 25 = .ok (.aload_n 0, 1) := by decide +kernel
theorem dX8_run_26 : decode cX8_run 26 = .ok (.iconst 2, 1) := by decide +kernel
theorem dX8_run_27 : decode cX8_run 27 = .ok (.invokevirtual 63, 3) := by decide +kernel
theorem dX8_run_30 : decode cX8_run 30 = .ok (.ireturn, 1) := by decide +kernel
theorem dX8_run_31 : decode cX8_run 31 = .ok (.aload_n 0, 1) := by decide +kernel
theorem dX8_run_32 : decode cX8_run 32 = .ok (.getfield 51, 3) := by decide +kernel
theorem dX8_run_35 : decode cX8_run 35 = .ok (.aload_n 0, 1) := by decide +kernel
theorem dX8_run_36 : decode cX8_run 36 = .ok (.getfield 37, 3) := by decide +kernel
theorem dX8_run_39 : decode cX8_run 39 = .ok (.invokevirtual 324, 3) := by decide +kernel
theorem dX8_run_42 : decode cX8_run 42 = .ok (.aload_n 0, 1) := by decide +kernel
theorem dX8_run_43 : decode cX8_run 43 = .ok (.getfield 16, 3) := by decide +kernel
theorem dX8_run_46 : decode cX8_run 46 = .ok (.getfield 117, 3) := by decide +kernel
theorem dX8_run_49 : decode cX8_run 49 = .ok (.iload_n 1, 1) := by decide +kernel
theorem dX8_run_50 : decode cX8_run 50 = .ok (.iload_n 2, 1) := by decide +kernel
theorem dX8_run_51 : decode cX8_run 51 = .ok (.iadd, 1) := by decide +kernel
theorem dX8_run_52 : decode cX8_run 52 = .ok (.invokestatic 348, 3) := by decide +kernel
theorem dX8_run_55 : decode cX8_run 55 = .ok (.istore_n 3, 1) := by decide +kernel
theorem dX8_run_56 : decode cX8_run 56 = .ok (.iload_n 1, 1) := by decide +kernel
theorem dX8_run_57 : decode cX8_run 57 = .ok (.istore 4, 2) := by decide +kernel
theorem dX8_run_59 : decode cX8_run 59 = .ok (.iload 4, 2) := by decide +kernel
theorem dX8_run_61 : decode cX8_run 61 = .ok (.iload_n 3, 1) := by decide +kernel
theorem dX8_run_62 : decode cX8_run 62 = .ok (.if_icmp .ge 22, 3) := by decide +kernel
theorem dX8_run_65 : decode cX8_run 65 = .ok (.aload_n 0, 1) := by decide +kernel
theorem dX8_run_66 : decode cX8_run 66 = .ok (.aload_n 0, 1) := by decide +kernel
theorem dX8_run_67 : decode cX8_run 67 = .ok (.getfield 37, 3) := by decide +kernel
theorem dX8_run_70 : decode cX8_run 70 = .ok (.getfield 105, 3) := by decide +kernel
theorem dX8_run_73 : decode cX8_run 73 = .ok (.iload 4, 2) := by decide +kernel
theorem dX8_run_75 : decode cX8_run 75 = .ok (.invokevirtual 351, 3) := by decide +kernel
theorem dX8_run_78 : decode cX8_run 78 = .ok (.iinc 4 1, 3) := by decide +kernel
theorem dX8_run_81 : decode cX8_run 81 = .ok (.goto (-22), 3) := by decide +kernel
theorem dX8_run_84 : decode cX8_run 84 = .ok (.aload_n 0, 1) := by decide +kernel
theorem dX8_run_85 : decode cX8_run 85 = .ok (.iload_n 3, 1) := by decide +kernel
theorem dX8_run_86 : decode cX8_run 86 = .ok (.iload_n 1, 1) := by decide +kernel
theorem dX8_run_87 : decode cX8_run 87 = .ok (.isub, 1) := by decide +kernel
theorem dX8_run_88 : decode cX8_run 88 = .ok (.invokevirtual 99, 3) := by decide +kernel
theorem dX8_run_91 : decode cX8_run 91 = .ok (.ireturn, 1) := by decide +kernel
theorem dX8_undo_0 : decode cX8_undo 0 = .ok (.aload_n 0, 1) := by decide +kernel
theorem dX8_undo_1 : decode cX8_undo 1 = .ok (.getfield 85, 3) := by decide +kernel
theorem dX8_undo_4 : decode cX8_undo 4 = .ok (.ifCond .eq 17, 3) := by decide +kernel
theorem dX8_undo_7 : decode cX8_undo 7 = .ok (.aload_n 0, 1) := by decide +kernel
theorem dX8_undo_8 : decode cX8_undo 8 = .ok (.getfield 51, 3) := by decide +kernel
theorem dX8_undo_11 : decode cX8_undo 11 = .ok (.aload_n 0, 1) := by decide +kernel
theorem dX8_undo_12 : decode cX8_undo 12 = .ok (.getfield 37, 3) := by decide +kernel
theorem dX8_undo_15 : decode cX8_undo 15 = .ok (.invokevirtual 355, 3) := by decide +kernel
theorem dX8_undo_18 : decode cX8_undo 18 = .ok (.ifCond .ne 9, 3) := by decide +kernel
theorem dX8_undo_21 : decode cX8_undo 21 = .ok (.aload_n 0, 1) := by decide +kernel
theorem dX8_undo_22 : decode cX8_undo 22 = .ok (.iconst 1, 1) := by decide +kernel
theorem dX8_undo_23 : decode cX8_undo 23 = .ok (.invokevirtual 338, 3) := by decide +kernel
theorem dX8_undo_26 : decode cX8_undo 26 = .ok (.ireturn, 1) := by decide +kernel
theorem dX8_undo_27 : decode cX8_undo 27 = .ok (.aload_n 0, 1) := by decide +kernel
theorem dX8_undo_28 : decode cX8_undo 28 = .ok (.invokevirtual 341, 3) := by decide +kernel
theorem dX8_undo_31 : decode cX8_undo 31 = .ok (.ireturn, 1) := by decide +kernel
theorem dX8_onDisk_0 : decode cX8_onDisk 0 = .ok (.iconst 0, 1) := by decide +kernel
theorem dX8_onDisk_1 : decode cX8_onDisk 1 = .ok (.istore_n 2, 1) := by decide +kernel
theorem dX8_onDisk_2 : decode cX8_onDisk 2 = .ok (.iconst 0, 1) := by decide +kernel
theorem dX8_onDisk_3 : decode cX8_onDisk 3 = .ok (.istore_n 3, 1) := by decide +kernel
theorem dX8_onDisk_4 : decode cX8_onDisk 4 = .ok (.iload_n 3, 1) := by decide +kernel
theorem dX8_onDisk_5 : decode cX8_onDisk 5 = .ok (.bipush 30, 2) := by decide +kernel
theorem dX8_onDisk_7 : decode cX8_onDisk 7 = .ok (.if_icmp .ge 35, 3) := by decide +kernel
theorem dX8_onDisk_10 : decode cX8_onDisk 10 = .ok (.aload_n 0, 1) := by decide +kernel
theorem dX8_onDisk_11 : decode cX8_onDisk 11 = .ok (.getfield 37, 3) := by decide +kernel
theorem dX8_onDisk_14 : decode cX8_onDisk 14 = .ok (.getfield 105, 3) := by decide +kernel
theorem dX8_onDisk_17 : decode cX8_onDisk 17 = .ok (.getfield 250, 3) := by decide +kernel
theorem dX8_onDisk_20 : decode cX8_onDisk 20 = .ok (.iload_n 3, 1) := by decide +kernel
theorem dX8_onDisk_21 : decode cX8_onDisk 21 = .ok (.iaload, 1) := by decide +kernel
theorem dX8_onDisk_22 : decode cX8_onDisk 22 = .ok (.iconst 3, 1) := by decide +kernel
theorem dX8_onDisk_23 : decode cX8_onDisk 23 = .ok (.if_icmp .ne 13, 3) := by decide +kernel
theorem dX8_onDisk_26 : decode cX8_onDisk 26 = .ok (.iload_n 2, 1) := by decide +kernel
theorem dX8_onDisk_27 : decode cX8_onDisk 27 = .ok (.iload_n 1, 1) := by decide +kernel
theorem dX8_onDisk_28 : decode cX8_onDisk 28 = .ok (.if_icmp .ne 5, 3) := by decide +kernel
theorem dX8_onDisk_31 : decode cX8_onDisk 31 = .ok (.iload_n 3, 1) := by decide +kernel
theorem dX8_onDisk_32 : decode cX8_onDisk 32 = .ok (.ireturn, 1) := by decide +kernel
theorem dX8_onDisk_33 : decode cX8_onDisk 33 = .ok (.iinc 2 1, 3) := by decide +kernel
theorem dX8_onDisk_36 : decode cX8_onDisk 36 = .ok (.iinc 3 1, 3) := by decide +kernel
theorem dX8_onDisk_39 : decode cX8_onDisk 39 = .ok (.goto (-35), 3) := by decide +kernel
theorem dX8_onDisk_42 : decode cX8_onDisk 42 = .ok (.new 359, 3) := by decide +kernel
theorem dX8_onDisk_45 : decode cX8_onDisk 45 = .ok (.dup, 1) := by decide +kernel
theorem dX8_onDisk_46 : decode cX8_onDisk 46 = .ok (.ldc_w 361, 3) := by decide +kernel
theorem dX8_onDisk_49 : decode cX8_onDisk 49 = .ok (.invokespecial 363, 3) := by decide +kernel
theorem dX8_onDisk_52 : decode cX8_onDisk 52 = .ok (.athrow, 1) := by decide +kernel
theorem dX8_size_0 : decode cX8_size 0 = .ok (.iload_n 1, 1) := by decide +kernel
theorem dX8_size_1 : decode cX8_size 1 = .ok (.lookupswitch 40 #[(0, 27), (1, 32)], 27) := by decide +kernel
theorem dX8_size_28 : decode cX8_size 28 = .ok (.aload_n 0, 1) := by decide +kernel
theorem dX8_size_29 : decode cX8_size 29 = .ok (.getfield 55, 3) := by decide +kernel
theorem dX8_size_32 : decode cX8_size 32 = .ok (.ireturn, 1) := by decide +kernel
theorem dX8_size_33 : decode cX8_size 33 = .ok (.aload_n 0, 1) := by decide +kernel
theorem dX8_size_34 : decode cX8_size 34 = .ok (.getfield 51, 3) := by decide +kernel
theorem dX8_size_37 : decode cX8_size 37 = .ok (.getfield 366, 3) := by decide +kernel
theorem dX8_size_40 : decode cX8_size 40 = .ok (.ireturn, 1) := by decide +kernel
theorem dX8_size_41 : decode cX8_size 41 = .ok (.iconst (-1), 1) := by decide +kernel
theorem dX8_size_42 : decode cX8_size 42 = .ok (.ireturn, 1) := by decide +kernel
theorem dX8_trouble_0 : decode cX8_trouble 0 = .ok (.aload_n 0, 1) := by decide +kernel
theorem dX8_trouble_1 : decode cX8_trouble 1 = .ok (.getfield 102, 3) := by decide +kernel
theorem dX8_trouble_4 : decode cX8_trouble 4 = .ok (.ireturn, 1) := by decide +kernel
theorem dX8_answer_0 : decode cX8_answer 0 = .ok (.aload_n 0, 1) := by decide +kernel
theorem dX8_answer_1 : decode cX8_answer 1 = .ok (.iconst 0, 1) := by decide +kernel
theorem dX8_answer_2 : decode cX8_answer 2 = .ok (.putfield 102, 3) := by decide +kernel
theorem dX8_answer_5 : decode cX8_answer 5 = .ok (.iload_n 1, 1) := by decide +kernel
theorem dX8_answer_6 : decode cX8_answer 6 = .ok (.ireturn, 1) := by decide +kernel
theorem dX8_refuse_0 : decode cX8_refuse 0 = .ok (.aload_n 0, 1) := by decide +kernel
theorem dX8_refuse_1 : decode cX8_refuse 1 = .ok (.iload_n 1, 1) := by decide +kernel
theorem dX8_refuse_2 : decode cX8_refuse 2 = .ok (.putfield 102, 3) := by decide +kernel
theorem dX8_refuse_5 : decode cX8_refuse 5 = .ok (.iconst (-1), 1) := by decide +kernel
theorem dX8_refuse_6 : decode cX8_refuse 6 = .ok (.ireturn, 1) := by decide +kernel
theorem dX8_agree_0 : decode cX8_agree 0 = .ok (.aload_n 0, 1) := by decide +kernel
theorem dX8_agree_1 : decode cX8_agree 1 = .ok (.iconst 0, 1) := by decide +kernel
theorem dX8_agree_2 : decode cX8_agree 2 = .ok (.putfield 102, 3) := by decide +kernel
theorem dX8_agree_5 : decode cX8_agree 5 = .ok (.iconst 1, 1) := by decide +kernel
theorem dX8_agree_6 : decode cX8_agree 6 = .ok (.ireturn, 1) := by decide +kernel
theorem dX8_refuseFlatly_0 : decode cX8_refuseFlatly 0 = .ok (.aload_n 0, 1) := by decide +kernel
theorem dX8_refuseFlatly_1 : decode cX8_refuseFlatly 1 = .ok (.iload_n 1, 1) := by decide +kernel
theorem dX8_refuseFlatly_2 : decode cX8_refuseFlatly 2 = .ok (.putfield 102, 3) := by decide +kernel
theorem dX8_refuseFlatly_5 : decode cX8_refuseFlatly 5 = .ok (.iconst 0, 1) := by decide +kernel
theorem dX8_refuseFlatly_6 : decode cX8_refuseFlatly 6 = .ok (.ireturn, 1) := by decide +kernel
theorem dX8_noData_0 : decode cX8_noData 0 = .ok (.aload_n 0, 1) := by decide +kernel
theorem dX8_noData_1 : decode cX8_noData 1 = .ok (.getfield 85, 3) := by decide +kernel
theorem dX8_noData_4 : decode cX8_noData 4 = .ok (.ifCond .eq 18, 3) := by decide +kernel
theorem dX8_noData_7 : decode cX8_noData 7 = .ok (.iload_n 1, 1) := by decide +kernel
theorem dX8_noData_8 : decode cX8_noData 8 = .ok (.ifCond .lt 14, 3) := by decide +kernel
theorem dX8_noData_11 : decode cX8_noData 11 = .ok (.iload_n 1, 1) := by decide +kernel
theorem dX8_noData_12 : decode cX8_noData 12 = .ok (.aload_n 0, 1) := by decide +kernel
theorem dX8_noData_13 : decode cX8_noData 13 = .ok (.getfield 16, 3) := by decide +kernel
theorem dX8_noData_16 : decode cX8_noData 16 = .ok (.getfield 96, 3) := by decide +kernel
theorem dX8_noData_19 : decode cX8_noData 19 = .ok (.if_icmp .lt 7, 3) := by decide +kernel
theorem dX8_noData_22 : decode cX8_noData 22 = .ok (.iconst 1, 1) := by decide +kernel
theorem dX8_noData_23 : decode cX8_noData 23 = .ok (.goto 4, 3) := by decide +kernel
theorem dX8_noData_26 : decode cX8_noData 26 = .ok (.iconst 0, 1) := by decide +kernel
theorem dX8_noData_27 : decode cX8_noData 27 = .ok (.ireturn, 1) := by decide +kernel
theorem dX8_noOp_0 : decode cX8_noOp 0 = .ok (.aload_n 0, 1) := by decide +kernel
theorem dX8_noOp_1 : decode cX8_noOp 1 = .ok (.getfield 85, 3) := by decide +kernel
theorem dX8_noOp_4 : decode cX8_noOp 4 = .ok (.ifCond .eq 18, 3) := by decide +kernel
theorem dX8_noOp_7 : decode cX8_noOp 7 = .ok (.iload_n 1, 1) := by decide +kernel
theorem dX8_noOp_8 : decode cX8_noOp 8 = .ok (.ifCond .lt 14, 3) := by decide +kernel
theorem dX8_noOp_11 : decode cX8_noOp 11 = .ok (.iload_n 1, 1) := by decide +kernel
theorem dX8_noOp_12 : decode cX8_noOp 12 = .ok (.aload_n 0, 1) := by decide +kernel
theorem dX8_noOp_13 : decode cX8_noOp 13 = .ok (.getfield 16, 3) := by decide +kernel
theorem dX8_noOp_16 : decode cX8_noOp 16 = .ok (.getfield 117, 3) := by decide +kernel
theorem dX8_noOp_19 : decode cX8_noOp 19 = .ok (.if_icmp .lt 7, 3) := by decide +kernel
theorem dX8_noOp_22 : decode cX8_noOp 22 = .ok (.iconst 1, 1) := by decide +kernel
theorem dX8_noOp_23 : decode cX8_noOp 23 = .ok (.goto 4, 3) := by decide +kernel
theorem dX8_noOp_26 : decode cX8_noOp 26 = .ok (.iconst 0, 1) := by decide +kernel
theorem dX8_noOp_27 : decode cX8_noOp 27 = .ok (.ireturn, 1) := by decide +kernel
theorem dX8_noPage_0 : decode cX8_noPage 0 = .ok (.aload_n 0, 1) := by decide +kernel
theorem dX8_noPage_1 : decode cX8_noPage 1 = .ok (.getfield 85, 3) := by decide +kernel
theorem dX8_noPage_4 : decode cX8_noPage 4 = .ok (.ifCond .eq 13, 3) := by decide +kernel
theorem dX8_noPage_7 : decode cX8_noPage 7 = .ok (.iload_n 1, 1) := by decide +kernel
theorem dX8_noPage_8 : decode cX8_noPage 8 = .ok (.ifCond .lt 9, 3) := by decide +kernel
theorem dX8_noPage_11 : decode cX8_noPage 11 = .ok (.iload_n 1, 1) := by decide +kernel
theorem dX8_noPage_12 : decode cX8_noPage 12 = .ok (.bipush 30, 2) := by decide +kernel
theorem dX8_noPage_14 : decode cX8_noPage 14 = .ok (.if_icmp .lt 7, 3) := by decide +kernel
theorem dX8_noPage_17 : decode cX8_noPage 17 = .ok (.iconst 1, 1) := by decide +kernel
theorem dX8_noPage_18 : decode cX8_noPage 18 = .ok (.goto 4, 3) := by decide +kernel
theorem dX8_noPage_21 : decode cX8_noPage 21 = .ok (.iconst 0, 1) := by decide +kernel
theorem dX8_noPage_22 : decode cX8_noPage 22 = .ok (.ireturn, 1) := by decide +kernel
theorem dX8_noZone_0 : decode cX8_noZone 0 = .ok (.aload_n 0, 1) := by decide +kernel
theorem dX8_noZone_1 : decode cX8_noZone 1 = .ok (.getfield 85, 3) := by decide +kernel
theorem dX8_noZone_4 : decode cX8_noZone 4 = .ok (.ifCond .eq 20, 3) := by decide +kernel
theorem dX8_noZone_7 : decode cX8_noZone 7 = .ok (.aload_n 0, 1) := by decide +kernel
theorem dX8_noZone_8 : decode cX8_noZone 8 = .ok (.getfield 37, 3) := by decide +kernel
theorem dX8_noZone_11 : decode cX8_noZone 11 = .ok (.getfield 105, 3) := by decide +kernel
theorem dX8_noZone_14 : decode cX8_noZone 14 = .ok (.getfield 120, 3) := by decide +kernel
theorem dX8_noZone_17 : decode cX8_noZone 17 = .ok (.iload_n 1, 1) := by decide +kernel
theorem dX8_noZone_18 : decode cX8_noZone 18 = .ok (.invokevirtual 369, 3) := by decide +kernel
theorem dX8_noZone_21 : decode cX8_noZone 21 = .ok (.ifCond .ne 7, 3) := by decide +kernel
theorem dX8_noZone_24 : decode cX8_noZone 24 = .ok (.iconst 1, 1) := by decide +kernel
theorem dX8_noZone_25 : decode cX8_noZone 25 = .ok (.goto 4, 3) := by decide +kernel
theorem dX8_noZone_28 : decode cX8_noZone 28 = .ok (.iconst 0, 1) := by decide +kernel
theorem dX8_noZone_29 : decode cX8_noZone 29 = .ok (.ireturn, 1) := by decide +kernel
theorem dX8_noClass_0 : decode cX8_noClass 0 = .ok (.aload_n 0, 1) := by decide +kernel
theorem dX8_noClass_1 : decode cX8_noClass 1 = .ok (.getfield 85, 3) := by decide +kernel
theorem dX8_noClass_4 : decode cX8_noClass 4 = .ok (.ifCond .eq 20, 3) := by decide +kernel
theorem dX8_noClass_7 : decode cX8_noClass 7 = .ok (.iload_n 1, 1) := by decide +kernel
theorem dX8_noClass_8 : decode cX8_noClass 8 = .ok (.aload_n 0, 1) := by decide +kernel
theorem dX8_noClass_9 : decode cX8_noClass 9 = .ok (.getfield 37, 3) := by decide +kernel
theorem dX8_noClass_12 : decode cX8_noClass 12 = .ok (.getfield 105, 3) := by decide +kernel
theorem dX8_noClass_15 : decode cX8_noClass 15 = .ok (.getfield 111, 3) := by decide +kernel
theorem dX8_noClass_18 : decode cX8_noClass 18 = .ok (.invokestatic 372, 3) := by decide +kernel
theorem dX8_noClass_21 : decode cX8_noClass 21 = .ok (.ifCond .ne 7, 3) := by decide +kernel
theorem dX8_noClass_24 : decode cX8_noClass 24 = .ok (.iconst 1, 1) := by decide +kernel
theorem dX8_noClass_25 : decode cX8_noClass 25 = .ok (.goto 4, 3) := by decide +kernel
theorem dX8_noClass_28 : decode cX8_noClass 28 = .ok (.iconst 0, 1) := by decide +kernel
theorem dX8_noClass_29 : decode cX8_noClass 29 = .ok (.ireturn, 1) := by decide +kernel
theorem dX8_noCell_0 : decode cX8_noCell 0 = .ok (.iload_n 0, 1) := by decide +kernel
theorem dX8_noCell_1 : decode cX8_noCell 1 = .ok (.ifCond .lt 9, 3) := by decide +kernel
theorem dX8_noCell_4 : decode cX8_noCell 4 = .ok (.iload_n 0, 1) := by decide +kernel
theorem dX8_noCell_5 : decode cX8_noCell 5 = .ok (.bipush 16, 2) := by decide +kernel
theorem dX8_noCell_7 : decode cX8_noCell 7 = .ok (.if_icmp .lt 7, 3) := by decide +kernel
theorem dX8_noCell_10 : decode cX8_noCell 10 = .ok (.iconst 1, 1) := by decide +kernel
theorem dX8_noCell_11 : decode cX8_noCell 11 = .ok (.goto 4, 3) := by decide +kernel
theorem dX8_noCell_14 : decode cX8_noCell 14 = .ok (.iconst 0, 1) := by decide +kernel
theorem dX8_noCell_15 : decode cX8_noCell 15 = .ok (.ireturn, 1) := by decide +kernel
theorem dX8_noSize_0 : decode cX8_noSize 0 = .ok (.iload_n 0, 1) := by decide +kernel
theorem dX8_noSize_1 : decode cX8_noSize 1 = .ok (.iconst 2, 1) := by decide +kernel
theorem dX8_noSize_2 : decode cX8_noSize 2 = .ok (.if_icmp .lt 9, 3) := by decide +kernel
theorem dX8_noSize_5 : decode cX8_noSize 5 = .ok (.iload_n 0, 1) := by decide +kernel
theorem dX8_noSize_6 : decode cX8_noSize 6 = .ok (.bipush 15, 2) := by decide +kernel
theorem dX8_noSize_8 : decode cX8_noSize 8 = .ok (.if_icmp .le 7, 3) := by decide +kernel
theorem dX8_noSize_11 : decode cX8_noSize 11 = .ok (.iconst 1, 1) := by decide +kernel
theorem dX8_noSize_12 : decode cX8_noSize 12 = .ok (.goto 4, 3) := by decide +kernel
theorem dX8_noSize_15 : decode cX8_noSize 15 = .ok (.iconst 0, 1) := by decide +kernel
theorem dX8_noSize_16 : decode cX8_noSize 16 = .ok (.ireturn, 1) := by decide +kernel
theorem dX8_noLimit_0 : decode cX8_noLimit 0 = .ok (.iload_n 0, 1) := by decide +kernel
theorem dX8_noLimit_1 : decode cX8_noLimit 1 = .ok (.iconst 1, 1) := by decide +kernel
theorem dX8_noLimit_2 : decode cX8_noLimit 2 = .ok (.if_icmp .lt 9, 3) := by decide +kernel
theorem dX8_noLimit_5 : decode cX8_noLimit 5 = .ok (.iload_n 0, 1) := by decide +kernel
theorem dX8_noLimit_6 : decode cX8_noLimit 6 = .ok (.bipush 24, 2) := by decide +kernel
theorem dX8_noLimit_8 : decode cX8_noLimit 8 = .ok (.if_icmp .le 7, 3) := by decide +kernel
theorem dX8_noLimit_11 : decode cX8_noLimit 11 = .ok (.iconst 1, 1) := by decide +kernel
theorem dX8_noLimit_12 : decode cX8_noLimit 12 = .ok (.goto 4, 3) := by decide +kernel
theorem dX8_noLimit_15 : decode cX8_noLimit 15 = .ok (.iconst 0, 1) := by decide +kernel
theorem dX8_noLimit_16 : decode cX8_noLimit 16 = .ok (.ireturn, 1) := by decide +kernel
theorem dX8_feedNumber_0 : decode cX8_feedNumber 0 = .ok (.bipush 24, 2) := by decide +kernel
theorem dX8_feedNumber_2 : decode cX8_feedNumber 2 = .ok (.istore_n 2, 1) := by decide +kernel
theorem dX8_feedNumber_3 : decode cX8_feedNumber 3 = .ok (.iload_n 2, 1) := by decide +kernel
theorem dX8_feedNumber_4 : decode cX8_feedNumber 4 = .ok (.ifCond .lt 45, 3) := by decide +kernel
theorem dX8_feedNumber_7 : decode cX8_feedNumber 7 = .ok (.aload_n 0, 1) := by decide +kernel
theorem dX8_feedNumber_8 : decode cX8_feedNumber 8 = .ok (.getfield 55, 3) := by decide +kernel
theorem dX8_feedNumber_11 : decode cX8_feedNumber 11 = .ok (.sipush 900, 3) := by decide +kernel
theorem dX8_feedNumber_14 : decode cX8_feedNumber 14 = .ok (.if_icmp .ge 35, 3) := by decide +kernel
theorem dX8_feedNumber_17 : decode cX8_feedNumber 17 = .ok (.aload_n 0, 1) := by decide +kernel
theorem dX8_feedNumber_18 : decode cX8_feedNumber 18 = .ok (.getfield 9, 3) := by decide +kernel
theorem dX8_feedNumber_21 : decode cX8_feedNumber 21 = .ok (.aload_n 0, 1) := by decide +kernel
theorem dX8_feedNumber_22 : decode cX8_feedNumber 22 = .ok (.getfield 55, 3) := by decide +kernel
theorem dX8_feedNumber_25 : decode cX8_feedNumber 25 = .ok (.iload_n 1, 1) := by decide +kernel
theorem dX8_feedNumber_26 : decode cX8_feedNumber 26 = .ok (.iload_n 2, 1) := by decide +kernel
theorem dX8_feedNumber_27 : decode cX8_feedNumber 27 = .ok (.iushr, 1) := by decide +kernel
theorem dX8_feedNumber_28 : decode cX8_feedNumber 28 = .ok (.sipush 255, 3) := by decide +kernel
theorem dX8_feedNumber_31 : decode cX8_feedNumber 31 = .ok (.iand, 1) := by decide +kernel
theorem dX8_feedNumber_32 : decode cX8_feedNumber 32 = .ok (.iastore, 1) := by decide +kernel
theorem dX8_feedNumber_33 : decode cX8_feedNumber 33 = .ok (.aload_n 0, 1) := by decide +kernel
theorem dX8_feedNumber_34 : decode cX8_feedNumber 34 = .ok (.dup, 1) := by decide +kernel
theorem dX8_feedNumber_35 : decode cX8_feedNumber 35 = .ok (.getfield 55, 3) := by decide +kernel
theorem dX8_feedNumber_38 : decode cX8_feedNumber 38 = .ok (.iconst 1, 1) := by decide +kernel
theorem dX8_feedNumber_39 : decode cX8_feedNumber 39 = .ok (.iadd, 1) := by decide +kernel
theorem dX8_feedNumber_40 : decode cX8_feedNumber 40 = .ok (.putfield 55, 3) := by decide +kernel
theorem dX8_feedNumber_43 : decode cX8_feedNumber 43 = .ok (.iinc 2 (-8), 3) := by decide +kernel
theorem dX8_feedNumber_46 : decode cX8_feedNumber 46 = .ok (.goto (-43), 3) := by decide +kernel
theorem dX8_feedNumber_49 : decode cX8_feedNumber 49 = .ok (.return_, 1) := by decide +kernel
theorem dX8_cutData_0 : decode cX8_cutData 0 = .ok (.aload_n 0, 1) := by decide +kernel
theorem dX8_cutData_1 : decode cX8_cutData 1 = .ok (.getfield 30, 3) := by decide +kernel
theorem dX8_cutData_4 : decode cX8_cutData 4 = .ok (.aload_n 0, 1) := by decide +kernel
theorem dX8_cutData_5 : decode cX8_cutData 5 = .ok (.getfield 37, 3) := by decide +kernel
theorem dX8_cutData_8 : decode cX8_cutData 8 = .ok (.getfield 148, 3) := by decide +kernel
theorem dX8_cutData_11 : decode cX8_cutData 11 = .ok (.iload_n 1, 1) := by decide +kernel
theorem dX8_cutData_12 : decode cX8_cutData 12 = .ok (.bipush 16, 2) := by decide +kernel
theorem dX8_cutData_14 : decode cX8_cutData 14 = .ok (.imul, 1) := by decide +kernel
theorem dX8_cutData_15 : decode cX8_cutData 15 = .ok (.invokevirtual 172, 3) := by decide +kernel
theorem dX8_cutData_18 : decode cX8_cutData 18 = .ok (.aload_n 0, 1) := by decide +kernel
theorem dX8_cutData_19 : decode cX8_cutData 19 = .ok (.getfield 30, 3) := by decide +kernel
theorem dX8_cutData_22 : decode cX8_cutData 22 = .ok (.invokevirtual 375, 3) := by decide +kernel
theorem dX8_cutData_25 : decode cX8_cutData 25 = .ok (.return_, 1) := by decide +kernel
theorem dX8_rankOf_0 : decode cX8_rankOf 0 = .ok (.iconst 0, 1) := by decide +kernel
theorem dX8_rankOf_1 : decode cX8_rankOf 1 = .ok (.istore_n 2, 1) := by decide +kernel
theorem dX8_rankOf_2 : decode cX8_rankOf 2 = .ok (.iconst 0, 1) := by decide +kernel
theorem dX8_rankOf_3 : decode cX8_rankOf 3 = .ok (.istore_n 3, 1) := by decide +kernel
theorem dX8_rankOf_4 : decode cX8_rankOf 4 = .ok (.iload_n 3, 1) := by decide +kernel
theorem dX8_rankOf_5 : decode cX8_rankOf 5 = .ok (.aload_n 0, 1) := by decide +kernel
theorem dX8_rankOf_6 : decode cX8_rankOf 6 = .ok (.getfield 16, 3) := by decide +kernel
theorem dX8_rankOf_9 : decode cX8_rankOf 9 = .ok (.getfield 96, 3) := by decide +kernel
theorem dX8_rankOf_12 : decode cX8_rankOf 12 = .ok (.if_icmp .ge 56, 3) := by decide +kernel
theorem dX8_rankOf_15 : decode cX8_rankOf 15 = .ok (.aload_n 0, 1) := by decide +kernel
theorem dX8_rankOf_16 : decode cX8_rankOf 16 = .ok (.getfield 37, 3) := by decide +kernel
theorem dX8_rankOf_19 : decode cX8_rankOf 19 = .ok (.getfield 151, 3) := by decide +kernel
theorem dX8_rankOf_22 : decode cX8_rankOf 22 = .ok (.iload_n 3, 1) := by decide +kernel
theorem dX8_rankOf_23 : decode cX8_rankOf 23 = .ok (.iaload, 1) := by decide +kernel
theorem dX8_rankOf_24 : decode cX8_rankOf 24 = .ok (.istore 4, 2) := by decide +kernel
theorem dX8_rankOf_26 : decode cX8_rankOf 26 = .ok (.iload 4, 2) := by decide +kernel
theorem dX8_rankOf_28 : decode cX8_rankOf 28 = .ok (.aload_n 0, 1) := by decide +kernel
theorem dX8_rankOf_29 : decode cX8_rankOf 29 = .ok (.getfield 37, 3) := by decide +kernel
theorem dX8_rankOf_32 : decode cX8_rankOf 32 = .ok (.getfield 151, 3) := by decide +kernel
theorem dX8_rankOf_35 : decode cX8_rankOf 35 = .ok (.iload_n 1, 1) := by decide +kernel
theorem dX8_rankOf_36 : decode cX8_rankOf 36 = .ok (.iaload, 1) := by decide +kernel
theorem dX8_rankOf_37 : decode cX8_rankOf 37 = .ok (.if_icmp .lt 22, 3) := by decide +kernel
theorem dX8_rankOf_40 : decode cX8_rankOf 40 = .ok (.iload 4, 2) := by decide +kernel
theorem dX8_rankOf_42 : decode cX8_rankOf 42 = .ok (.aload_n 0, 1) := by decide +kernel
theorem dX8_rankOf_43 : decode cX8_rankOf 43 = .ok (.getfield 37, 3) := by decide +kernel
theorem dX8_rankOf_46 : decode cX8_rankOf 46 = .ok (.getfield 151, 3) := by decide +kernel
theorem dX8_rankOf_49 : decode cX8_rankOf 49 = .ok (.iload_n 1, 1) := by decide +kernel
theorem dX8_rankOf_50 : decode cX8_rankOf 50 = .ok (.iaload, 1) := by decide +kernel
theorem dX8_rankOf_51 : decode cX8_rankOf 51 = .ok (.if_icmp .ne 11, 3) := by decide +kernel
theorem dX8_rankOf_54 : decode cX8_rankOf 54 = .ok (.iload_n 3, 1) := by decide +kernel
theorem dX8_rankOf_55 : decode cX8_rankOf 55 = .ok (.iload_n 1, 1) := by decide +kernel
theorem dX8_rankOf_56 : decode cX8_rankOf 56 = .ok (.if_icmp .ge 6, 3) := by decide +kernel
theorem dX8_rankOf_59 : decode cX8_rankOf 59 = .ok (.iinc 2 1, 3) := by decide +kernel
theorem dX8_rankOf_62 : decode cX8_rankOf 62 = .ok (.iinc 3 1, 3) := by decide +kernel
theorem dX8_rankOf_65 : decode cX8_rankOf 65 = .ok (.goto (-61), 3) := by decide +kernel
theorem dX8_rankOf_68 : decode cX8_rankOf 68 = .ok (.iload_n 2, 1) := by decide +kernel
theorem dX8_rankOf_69 : decode cX8_rankOf 69 = .ok (.ireturn, 1) := by decide +kernel
theorem dX8_thinkOfPool_0 : decode cX8_thinkOfPool 0 = .ok (.aload_n 0, 1) := by decide +kernel
theorem dX8_thinkOfPool_1 : decode cX8_thinkOfPool 1 = .ok (.getfield 44, 3) := by decide +kernel
theorem dX8_thinkOfPool_4 : decode cX8_thinkOfPool 4 = .ok (.aload_n 0, 1) := by decide +kernel
theorem dX8_thinkOfPool_5 : decode cX8_thinkOfPool 5 = .ok (.getfield 37, 3) := by decide +kernel
theorem dX8_thinkOfPool_8 : decode cX8_thinkOfPool 8 = .ok (.getfield 105, 3) := by decide +kernel
theorem dX8_thinkOfPool_11 : decode cX8_thinkOfPool 11 = .ok (.invokevirtual 215, 3) := by decide +kernel
theorem dX8_thinkOfPool_14 : decode cX8_thinkOfPool 14 = .ok (.iload_n 1, 1) := by decide +kernel
theorem dX8_thinkOfPool_15 : decode cX8_thinkOfPool 15 = .ok (.ifCond .eq 11, 3) := by decide +kernel
theorem dX8_thinkOfPool_18 : decode cX8_thinkOfPool 18 = .ok (.aload_n 0, 1) := by decide +kernel
theorem dX8_thinkOfPool_19 : decode cX8_thinkOfPool 19 = .ok (.getfield 44, 3) := by decide +kernel
theorem dX8_thinkOfPool_22 : decode cX8_thinkOfPool 22 = .ok (.invokevirtual 219, 3) := by decide +kernel
theorem dX8_thinkOfPool_25 : decode cX8_thinkOfPool 25 = .ok (.pop, 1) := by decide +kernel
theorem dX8_thinkOfPool_26 : decode cX8_thinkOfPool 26 = .ok (.return_, 1) := by decide +kernel
theorem dX8_thinkOfStoring_0 : decode cX8_thinkOfStoring 0 = .ok (.aload_n 0, 1) := by decide +kernel
theorem dX8_thinkOfStoring_1 : decode cX8_thinkOfStoring 1 = .ok (.getfield 44, 3) := by decide +kernel
theorem dX8_thinkOfStoring_4 : decode cX8_thinkOfStoring 4 = .ok (.aload_n 0, 1) := by decide +kernel
theorem dX8_thinkOfStoring_5 : decode cX8_thinkOfStoring 5 = .ok (.getfield 37, 3) := by decide +kernel
theorem dX8_thinkOfStoring_8 : decode cX8_thinkOfStoring 8 = .ok (.getfield 105, 3) := by decide +kernel
theorem dX8_thinkOfStoring_11 : decode cX8_thinkOfStoring 11 = .ok (.invokevirtual 215, 3) := by decide +kernel
theorem dX8_thinkOfStoring_14 : decode cX8_thinkOfStoring 14 = .ok (.aload_n 0, 1) := by decide +kernel
theorem dX8_thinkOfStoring_15 : decode cX8_thinkOfStoring 15 = .ok (.getfield 44, 3) := by decide +kernel
theorem dX8_thinkOfStoring_18 : decode cX8_thinkOfStoring 18 = .ok (.iload_n 1, 1) := by decide +kernel
theorem dX8_thinkOfStoring_19 : decode cX8_thinkOfStoring 19 = .ok (.aload_n 0, 1) := by decide +kernel
theorem dX8_thinkOfStoring_20 : decode cX8_thinkOfStoring 20 = .ok (.getfield 37, 3) := by decide +kernel
theorem dX8_thinkOfStoring_23 : decode cX8_thinkOfStoring 23 = .ok (.getfield 148, 3) := by decide +kernel
theorem dX8_thinkOfStoring_26 : decode cX8_thinkOfStoring 26 = .ok (.iload_n 2, 1) := by decide +kernel
theorem dX8_thinkOfStoring_27 : decode cX8_thinkOfStoring 27 = .ok (.bipush 16, 2) := by decide +kernel
theorem dX8_thinkOfStoring_29 : decode cX8_thinkOfStoring 29 = .ok (.imul, 1) := by decide +kernel
theorem dX8_thinkOfStoring_30 : decode cX8_thinkOfStoring 30 = .ok (.aload_n 0, 1) := by decide +kernel
theorem dX8_thinkOfStoring_31 : decode cX8_thinkOfStoring 31 = .ok (.getfield 37, 3) := by decide +kernel
theorem dX8_thinkOfStoring_34 : decode cX8_thinkOfStoring 34 = .ok (.getfield 151, 3) := by decide +kernel
theorem dX8_thinkOfStoring_37 : decode cX8_thinkOfStoring 37 = .ok (.iload_n 2, 1) := by decide +kernel
theorem dX8_thinkOfStoring_38 : decode cX8_thinkOfStoring 38 = .ok (.iaload, 1) := by decide +kernel
theorem dX8_thinkOfStoring_39 : decode cX8_thinkOfStoring 39 = .ok (.invokevirtual 328, 3) := by decide +kernel
theorem dX8_thinkOfStoring_42 : decode cX8_thinkOfStoring 42 = .ok (.return_, 1) := by decide +kernel
theorem dX8_foretell_0 : decode cX8_foretell 0 = .ok (.aload_n 0, 1) := by decide +kernel
theorem dX8_foretell_1 : decode cX8_foretell 1 = .ok (.getfield 44, 3) := by decide +kernel
theorem dX8_foretell_4 : decode cX8_foretell 4 = .ok (.iload_n 1, 1) := by decide +kernel
theorem dX8_foretell_5 : decode cX8_foretell 5 = .ok (.iload_n 2, 1) := by decide +kernel
theorem dX8_foretell_6 : decode cX8_foretell 6 = .ok (.aload_n 0, 1) := by decide +kernel
theorem dX8_foretell_7 : decode cX8_foretell 7 = .ok (.getfield 16, 3) := by decide +kernel
theorem dX8_foretell_10 : decode cX8_foretell 10 = .ok (.getfield 378, 3) := by decide +kernel
theorem dX8_foretell_13 : decode cX8_foretell 13 = .ok (.invokevirtual 379, 3) := by decide +kernel
theorem dX8_foretell_16 : decode cX8_foretell 16 = .ok (.iconst 0, 1) := by decide +kernel
theorem dX8_foretell_17 : decode cX8_foretell 17 = .ok (.istore_n 3, 1) := by decide +kernel
theorem dX8_foretell_18 : decode cX8_foretell 18 = .ok (.iload_n 3, 1) := by decide +kernel
theorem dX8_foretell_19 : decode cX8_foretell 19 = .ok (.aload_n 0, 1) := by decide +kernel
theorem dX8_foretell_20 : decode cX8_foretell 20 = .ok (.getfield 16, 3) := by decide +kernel
theorem dX8_foretell_23 : decode cX8_foretell 23 = .ok (.getfield 117, 3) := by decide +kernel
theorem dX8_foretell_26 : decode cX8_foretell 26 = .ok (.if_icmp .ge 18, 3) := by decide +kernel
theorem dX8_foretell_29 : decode cX8_foretell 29 = .ok (.aload_n 0, 1) := by decide +kernel
theorem dX8_foretell_30 : decode cX8_foretell 30 = .ok (.aload_n 0, 1) := by decide +kernel
theorem dX8_foretell_31 : decode cX8_foretell 31 = .ok (.getfield 44, 3) := by decide +kernel
theorem dX8_foretell_34 : decode cX8_foretell 34 = .ok (.iload_n 3, 1) := by decide +kernel
theorem dX8_foretell_35 : decode cX8_foretell 35 = .ok (.invokevirtual 351, 3) := by decide +kernel
theorem dX8_foretell_38 : decode cX8_foretell 38 = .ok (.iinc 3 1, 3) := by decide +kernel
theorem dX8_foretell_41 : decode cX8_foretell 41 = .ok (.goto (-23), 3) := by decide +kernel
theorem dX8_foretell_44 : decode cX8_foretell 44 = .ok (.return_, 1) := by decide +kernel
theorem dX8_perform_0 : decode cX8_perform 0 = .ok (.aload_n 0, 1) := by decide +kernel
theorem dX8_perform_1 : decode cX8_perform 1 = .ok (.getfield 16, 3) := by decide +kernel
theorem dX8_perform_4 : decode cX8_perform 4 = .ok (.getfield 318, 3) := by decide +kernel
theorem dX8_perform_7 : decode cX8_perform 7 = .ok (.iload_n 2, 1) := by decide +kernel
theorem dX8_perform_8 : decode cX8_perform 8 = .ok (.iaload, 1) := by decide +kernel
theorem dX8_perform_9 : decode cX8_perform 9 = .ok (.istore_n 3, 1) := by decide +kernel
theorem dX8_perform_10 : decode cX8_perform 10 = .ok (.aload_n 0, 1) := by decide +kernel
theorem dX8_perform_11 : decode cX8_perform 11 = .ok (.getfield 16, 3) := by decide +kernel
theorem dX8_perform_14 : decode cX8_perform 14 = .ok (.getfield 321, 3) := by decide +kernel
theorem dX8_perform_17 : decode cX8_perform 17 = .ok (.iload_n 2, 1) := by decide +kernel
theorem dX8_perform_18 : decode cX8_perform 18 = .ok (.iaload, 1) := by decide +kernel
theorem dX8_perform_19 : decode cX8_perform 19 = .ok (.istore 4, 2) := by decide +kernel
theorem dX8_perform_21 : decode cX8_perform 21 = .ok (.aload_n 0, 1) := by decide +kernel
theorem dX8_perform_22 : decode cX8_perform 22 = .ok (.getfield 16, 3) := by decide +kernel
theorem dX8_perform_25 : decode cX8_perform 25 = .ok (.getfield 315, 3) := by decide +kernel
theorem dX8_perform_28 : decode cX8_perform 28 = .ok (.iload_n 2, 1) := by decide +kernel
theorem dX8_perform_29 : decode cX8_perform 29 = .ok (.iaload, 1) := by decide +kernel
theorem dX8_perform_30 : decode cX8_perform 30 = .ok (.iconst 1, 1) := by decide +kernel
theorem dX8_perform_31 : decode cX8_perform 31 = .ok (.if_icmp .ne 11, 3) := by decide +kernel
theorem dX8_perform_34 : decode cX8_perform 34 = .ok (.aload_n 1, 1) := by decide +kernel
theorem dX8_perform_35 : decode cX8_perform 35 = .ok (.iload_n 3, 1) := by decide +kernel
theorem dX8_perform_36 : decode cX8_perform 36 = .ok (.invokevirtual 332, 3) := by decide +kernel
theorem dX8_perform_39 : decode cX8_perform 39 = .ok (.goto 60, 3) := by decide +kernel
theorem dX8_perform_42 : decode cX8_perform 42 = .ok (.aload_n 0, 1) := by decide +kernel
theorem dX8_perform_43 : decode cX8_perform 43 = .ok (.getfield 16, 3) := by decide +kernel
theorem dX8_perform_46 : decode cX8_perform 46 = .ok (.getfield 315, 3) := by decide +kernel
theorem dX8_perform_49 : decode cX8_perform 49 = .ok (.iload_n 2, 1) := by decide +kernel
theorem dX8_perform_50 : decode cX8_perform 50 = .ok (.iaload, 1) := by decide +kernel
theorem dX8_perform_51 : decode cX8_perform 51 = .ok (.iconst 2, 1) := by decide +kernel
theorem dX8_perform_52 : decode cX8_perform 52 = .ok (.if_icmp .ne 11, 3) := by decide +kernel
theorem dX8_perform_55 : decode cX8_perform 55 = .ok (.aload_n 1, 1) := by decide +kernel
theorem dX8_perform_56 : decode cX8_perform 56 = .ok (.iload_n 3, 1) := by decide +kernel
theorem dX8_perform_57 : decode cX8_perform 57 = .ok (.invokevirtual 335, 3) := by decide +kernel
theorem dX8_perform_60 : decode cX8_perform 60 = .ok (.goto 39, 3) := by decide +kernel
theorem dX8_perform_63 : decode cX8_perform 63 = .ok (.aload_n 0, 1) := by decide +kernel
theorem dX8_perform_64 : decode cX8_perform 64 = .ok (.iload 4, 2) := by decide +kernel
theorem dX8_perform_66 : decode cX8_perform 66 = .ok (.invokevirtual 141, 3) := by decide +kernel
theorem dX8_perform_69 : decode cX8_perform 69 = .ok (.ifCond .ne 30, 3) := by decide +kernel
theorem dX8_perform_72 : decode cX8_perform 72 = .ok (.aload_n 1, 1) := by decide +kernel
theorem dX8_perform_73 : decode cX8_perform 73 = .ok (.iload_n 3, 1) := by decide +kernel
theorem dX8_perform_74 : decode cX8_perform 74 = .ok (.aload_n 0, 1) := by decide +kernel
theorem dX8_perform_75 : decode cX8_perform 75 = .ok (.getfield 37, 3) := by decide +kernel
theorem dX8_perform_78 : decode cX8_perform 78 = .ok (.getfield 148, 3) := by decide +kernel
theorem dX8_perform_81 : decode cX8_perform 81 = .ok (.iload 4, 2) := by decide +kernel
theorem dX8_perform_83 : decode cX8_perform 83 = .ok (.bipush 16, 2) := by decide +kernel
theorem dX8_perform_85 : decode cX8_perform 85 = .ok (.imul, 1) := by decide +kernel
theorem dX8_perform_86 : decode cX8_perform 86 = .ok (.aload_n 0, 1) := by decide +kernel
theorem dX8_perform_87 : decode cX8_perform 87 = .ok (.getfield 37, 3) := by decide +kernel
theorem dX8_perform_90 : decode cX8_perform 90 = .ok (.getfield 151, 3) := by decide +kernel
theorem dX8_perform_93 : decode cX8_perform 93 = .ok (.iload 4, 2) := by decide +kernel
theorem dX8_perform_95 : decode cX8_perform 95 = .ok (.iaload, 1) := by decide +kernel
theorem dX8_perform_96 : decode cX8_perform 96 = .ok (.invokevirtual 328, 3) := by decide +kernel
theorem dX8_perform_99 : decode cX8_perform 99 = .ok (.return_, 1) := by decide +kernel
