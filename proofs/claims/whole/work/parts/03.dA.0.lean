theorem dJ0_length_8abf5_0 : decode cJ0_length_8abf5 0 = .ok (.aload_n 0, 1) := by decide +kernel
theorem dJ0_length_8abf5_1 : decode cJ0_length_8abf5 1 = .ok (.getfield 9, 3) := by decide +kernel
theorem dJ0_length_8abf5_4 : decode cJ0_length_8abf5 4 = .ok (.arraylength, 1) := by decide +kernel
theorem dJ0_length_8abf5_5 : decode cJ0_length_8abf5 5 = .ok (.aload_n 0, 1) := by decide +kernel
theorem dJ0_length_8abf5_6 : decode cJ0_length_8abf5 6 = .ok (.invokevirtual 335, 3) := by decide +kernel
theorem dJ0_length_8abf5_9 : decode cJ0_length_8abf5 9 = .ok (.ishr, 1) := by decide +kernel
theorem dJ0_length_8abf5_10 : decode cJ0_length_8abf5 10 = .ok (.ireturn, 1) := by decide +kernel
theorem dJ0_charAt_5068e_0 : decode cJ0_charAt_5068e 0 = .ok (.aload_n 0, 1) := by decide +kernel
theorem dJ0_charAt_5068e_1 : decode cJ0_charAt_5068e 1 = .ok (.invokevirtual 492, 3) := by decide +kernel
theorem dJ0_charAt_5068e_4 : decode cJ0_charAt_5068e 4 = .ok (.ifCond .eq 12, 3) := by decide +kernel
theorem dJ0_charAt_5068e_7 : decode cJ0_charAt_5068e 7 = .ok (.aload_n 0, 1) := by decide +kernel
theorem dJ0_charAt_5068e_8 : decode cJ0_charAt_5068e 8 = .ok (.getfield 9, 3) := by decide +kernel
theorem dJ0_charAt_5068e_11 : decode cJ0_charAt_5068e 11 = .ok (.iload_n 1, 1) := by decide +kernel
theorem dJ0_charAt_5068e_12 : decode cJ0_charAt_5068e 12 = .ok (.invokestatic 495, 3) := by decide +kernel
theorem dJ0_charAt_5068e_15 : decode cJ0_charAt_5068e 15 = .ok (.ireturn, 1) := by decide +kernel
theorem dJ0_charAt_5068e_16 : decode cJ0_charAt_5068e 16 = .ok (.aload_n 0, 1) := by decide +kernel
theorem dJ0_charAt_5068e_17 : decode cJ0_charAt_5068e 17 = .ok (.getfield 9, 3) := by decide +kernel
theorem dJ0_charAt_5068e_20 : decode cJ0_charAt_5068e 20 = .ok (.iload_n 1, 1) := by decide +kernel
theorem dJ0_charAt_5068e_21 : decode cJ0_charAt_5068e 21 = .ok (.invokestatic 498, 3) := by decide +kernel
theorem dJ0_charAt_5068e_24 : decode cJ0_charAt_5068e 24 = .ok (.ireturn, 1) := by decide +kernel
theorem dJ0_coder_7d493_0 : decode cJ0_coder_7d493 0 = .ok (.getstatic 38, 3) := by decide +kernel
theorem dJ0_coder_7d493_3 : decode cJ0_coder_7d493 3 = .ok (.ifCond .eq 10, 3) := by decide +kernel
theorem dJ0_coder_7d493_6 : decode cJ0_coder_7d493 6 = .ok (.aload_n 0, 1) := by decide +kernel
theorem dJ0_coder_7d493_7 : decode cJ0_coder_7d493 7 = .ok (.getfield 15, 3) := by decide +kernel
theorem dJ0_coder_7d493_10 : decode cJ0_coder_7d493 10 = .ok (.goto 4, 3) := by decide +kernel
theorem dJ0_coder_7d493_13 : decode cJ0_coder_7d493 13 = .ok (.iconst 1, 1) := by decide +kernel
theorem dJ0_coder_7d493_14 : decode cJ0_coder_7d493 14 = .ok (.ireturn, 1) := by decide +kernel
theorem dJ0_isLatin1_aae02_0 : decode cJ0_isLatin1_aae02 0 = .ok (.getstatic 38, 3) := by decide +kernel
theorem dJ0_isLatin1_aae02_3 : decode cJ0_isLatin1_aae02 3 = .ok (.ifCond .eq 14, 3) := by decide +kernel
theorem dJ0_isLatin1_aae02_6 : decode cJ0_isLatin1_aae02 6 = .ok (.aload_n 0, 1) := by decide +kernel
theorem dJ0_isLatin1_aae02_7 : decode cJ0_isLatin1_aae02 7 = .ok (.getfield 15, 3) := by decide +kernel
theorem dJ0_isLatin1_aae02_10 : decode cJ0_isLatin1_aae02 10 = .ok (.ifCond .ne 7, 3) := by decide +kernel
theorem dJ0_isLatin1_aae02_13 : decode cJ0_isLatin1_aae02 13 = .ok (.iconst 1, 1) := by decide +kernel
theorem dJ0_isLatin1_aae02_14 : decode cJ0_isLatin1_aae02 14 = .ok (.goto 4, 3) := by decide +kernel
theorem dJ0_isLatin1_aae02_17 : decode cJ0_isLatin1_aae02 17 = .ok (.iconst 0, 1) := by decide +kernel
theorem dJ0_isLatin1_aae02_18 : decode cJ0_isLatin1_aae02 18 = .ok (.ireturn, 1) := by decide +kernel
theorem dJ0_checkIndex_df160_0 : decode cJ0_checkIndex_df160 0 = .ok (.iload_n 0, 1) := by decide +kernel
theorem dJ0_checkIndex_df160_1 : decode cJ0_checkIndex_df160 1 = .ok (.iload_n 1, 1) := by decide +kernel
theorem dJ0_checkIndex_df160_2 : decode cJ0_checkIndex_df160 2 = .ok (.getstatic 1053, 3) := by decide +kernel
theorem dJ0_checkIndex_df160_5 : decode cJ0_checkIndex_df160 5 = .ok (.invokestatic 1059, 3) := by decide +kernel
theorem dJ0_checkIndex_df160_8 : decode cJ0_checkIndex_df160 8 = .ok (.pop, 1) := by decide +kernel
theorem dJ0_checkIndex_df160_9 : decode cJ0_checkIndex_df160 9 = .ok (.return_, 1) := by decide +kernel
theorem dJ1_charAt_3b067_0 : decode cJ1_charAt_3b067 0 = .ok (.iload_n 1, 1) := by decide +kernel
theorem dJ1_charAt_3b067_1 : decode cJ1_charAt_3b067 1 = .ok (.aload_n 0, 1) := by decide +kernel
theorem dJ1_charAt_3b067_2 : decode cJ1_charAt_3b067 2 = .ok (.arraylength, 1) := by decide +kernel
theorem dJ1_charAt_3b067_3 : decode cJ1_charAt_3b067 3 = .ok (.invokestatic 9, 3) := by decide +kernel
theorem dJ1_charAt_3b067_6 : decode cJ1_charAt_3b067 6 = .ok (.aload_n 0, 1) := by decide +kernel
theorem dJ1_charAt_3b067_7 : decode cJ1_charAt_3b067 7 = .ok (.iload_n 1, 1) := by decide +kernel
theorem dJ1_charAt_3b067_8 : decode cJ1_charAt_3b067 8 = .ok (.baload, 1) := by decide +kernel
theorem dJ1_charAt_3b067_9 : decode cJ1_charAt_3b067 9 = .ok (.sipush 255, 3) := by decide +kernel
theorem dJ1_charAt_3b067_12 : decode cJ1_charAt_3b067 12 = .ok (.iand, 1) := by decide +kernel
theorem dJ1_charAt_3b067_13 : decode cJ1_charAt_3b067 13 = .ok (.i2c, 1) := by decide +kernel
theorem dJ1_charAt_3b067_14 : decode cJ1_charAt_3b067 14 = .ok (.ireturn, 1) := by decide +kernel
theorem dJ2_getChar_3b067_0 : decode cJ2_getChar_3b067 0 = .ok (.getstatic 44, 3) := by decide +kernel
theorem dJ2_getChar_3b067_3 : decode cJ2_getChar_3b067 3 = .ok (.ifCond .ne 25, 3) := by decide +kernel
theorem dJ2_getChar_3b067_6 : decode cJ2_getChar_3b067 6 = .ok (.iload_n 1, 1) := by decide +kernel
theorem dJ2_getChar_3b067_7 : decode cJ2_getChar_3b067 7 = .ok (.ifCond .lt 11, 3) := by decide +kernel
theorem dJ2_getChar_3b067_10 : decode cJ2_getChar_3b067 10 = .ok (.iload_n 1, 1) := by decide +kernel
theorem dJ2_getChar_3b067_11 : decode cJ2_getChar_3b067 11 = .ok (.aload_n 0, 1) := by decide +kernel
theorem dJ2_getChar_3b067_12 : decode cJ2_getChar_3b067 12 = .ok (.invokestatic 48, 3) := by decide +kernel
theorem dJ2_getChar_3b067_15 : decode cJ2_getChar_3b067 15 = .ok (.if_icmp .lt 13, 3) := by decide +kernel
theorem dJ2_getChar_3b067_18 : decode cJ2_getChar_3b067 18 = .ok (.new 52, 3) := by decide +kernel
theorem dJ2_getChar_3b067_21 : decode cJ2_getChar_3b067 21 = .ok (.dup, 1) := by decide +kernel
theorem dJ2_getChar_3b067_22 : decode cJ2_getChar_3b067 22 = .ok (.ldc 54, 2) := by decide +kernel
theorem dJ2_getChar_3b067_24 : decode cJ2_getChar_3b067 24 = .ok (.invokespecial 56, 3) := by decide +kernel
theorem dJ2_getChar_3b067_27 : decode cJ2_getChar_3b067 27 = .ok (.athrow, 1) := by decide +kernel
theorem dJ2_getChar_3b067_28 : decode cJ2_getChar_3b067 28 = .ok (.iload_n 1, 1) := by decide +kernel
theorem dJ2_getChar_3b067_29 : decode cJ2_getChar_3b067 29 = .ok (.iconst 1, 1) := by decide +kernel
theorem dJ2_getChar_3b067_30 : decode cJ2_getChar_3b067 30 = .ok (.ishl, 1) := by decide +kernel
theorem dJ2_getChar_3b067_31 : decode cJ2_getChar_3b067 31 = .ok (.istore_n 1, 1) := by decide +kernel
theorem dJ2_getChar_3b067_32 : decode cJ2_getChar_3b067 32 = .ok (.aload_n 0, 1) := by decide +kernel
theorem dJ2_getChar_3b067_33 : decode cJ2_getChar_3b067 33 = .ok (.iload_n 1, 1) := by decide +kernel
theorem dJ2_getChar_3b067_34 : decode cJ2_getChar_3b067 34 = .ok (.iinc 1 1, 3) := by decide +kernel
theorem dJ2_getChar_3b067_37 : decode cJ2_getChar_3b067 37 = .ok (.baload, 1) := by decide +kernel
theorem dJ2_getChar_3b067_38 : decode cJ2_getChar_3b067 38 = .ok (.sipush 255, 3) := by decide +kernel
theorem dJ2_getChar_3b067_41 : decode cJ2_getChar_3b067 41 = .ok (.iand, 1) := by decide +kernel
theorem dJ2_getChar_3b067_42 : decode cJ2_getChar_3b067 42 = .ok (.getstatic 59, 3) := by decide +kernel
theorem dJ2_getChar_3b067_45 : decode cJ2_getChar_3b067 45 = .ok (.ishl, 1) := by decide +kernel
theorem dJ2_getChar_3b067_46 : decode cJ2_getChar_3b067 46 = .ok (.aload_n 0, 1) := by decide +kernel
theorem dJ2_getChar_3b067_47 : decode cJ2_getChar_3b067 47 = .ok (.iload_n 1, 1) := by decide +kernel
theorem dJ2_getChar_3b067_48 : decode cJ2_getChar_3b067 48 = .ok (.baload, 1) := by decide +kernel
theorem dJ2_getChar_3b067_49 : decode cJ2_getChar_3b067 49 = .ok (.sipush 255, 3) := by decide +kernel
theorem dJ2_getChar_3b067_52 : decode cJ2_getChar_3b067 52 = .ok (.iand, 1) := by decide +kernel
theorem dJ2_getChar_3b067_53 : decode cJ2_getChar_3b067 53 = .ok (.getstatic 63, 3) := by decide +kernel
theorem dJ2_getChar_3b067_56 : decode cJ2_getChar_3b067 56 = .ok (.ishl, 1) := by decide +kernel
theorem dJ2_getChar_3b067_57 : decode cJ2_getChar_3b067 57 = .ok (.ior, 1) := by decide +kernel
theorem dJ2_getChar_3b067_58 : decode cJ2_getChar_3b067 58 = .ok (.i2c, 1) := by decide +kernel
theorem dJ2_getChar_3b067_59 : decode cJ2_getChar_3b067 59 = .ok (.ireturn, 1) := by decide +kernel
theorem dJ2_length_9d52b_0 : decode cJ2_length_9d52b 0 = .ok (.aload_n 0, 1) := by decide +kernel
theorem dJ2_length_9d52b_1 : decode cJ2_length_9d52b 1 = .ok (.arraylength, 1) := by decide +kernel
theorem dJ2_length_9d52b_2 : decode cJ2_length_9d52b 2 = .ok (.iconst 1, 1) := by decide +kernel
theorem dJ2_length_9d52b_3 : decode cJ2_length_9d52b 3 = .ok (.ishr, 1) := by decide +kernel
theorem dJ2_length_9d52b_4 : decode cJ2_length_9d52b 4 = .ok (.ireturn, 1) := by decide +kernel
theorem dJ2_charAt_3b067_0 : decode cJ2_charAt_3b067 0 = .ok (.iload_n 1, 1) := by decide +kernel
theorem dJ2_charAt_3b067_1 : decode cJ2_charAt_3b067 1 = .ok (.aload_n 0, 1) := by decide +kernel
theorem dJ2_charAt_3b067_2 : decode cJ2_charAt_3b067 2 = .ok (.invokestatic 67, 3) := by decide +kernel
theorem dJ2_charAt_3b067_5 : decode cJ2_charAt_3b067 5 = .ok (.aload_n 0, 1) := by decide +kernel
theorem dJ2_charAt_3b067_6 : decode cJ2_charAt_3b067 6 = .ok (.iload_n 1, 1) := by decide +kernel
theorem dJ2_charAt_3b067_7 : decode cJ2_charAt_3b067 7 = .ok (.invokestatic 71, 3) := by decide +kernel
theorem dJ2_charAt_3b067_10 : decode cJ2_charAt_3b067 10 = .ok (.ireturn, 1) := by decide +kernel
theorem dJ2_checkIndex_2214a_0 : decode cJ2_checkIndex_2214a 0 = .ok (.iload_n 0, 1) := by decide +kernel
theorem dJ2_checkIndex_2214a_1 : decode cJ2_checkIndex_2214a 1 = .ok (.aload_n 1, 1) := by decide +kernel
theorem dJ2_checkIndex_2214a_2 : decode cJ2_checkIndex_2214a 2 = .ok (.invokestatic 48, 3) := by decide +kernel
theorem dJ2_checkIndex_2214a_5 : decode cJ2_checkIndex_2214a 5 = .ok (.invokestatic 414, 3) := by decide +kernel
theorem dJ2_checkIndex_2214a_8 : decode cJ2_checkIndex_2214a 8 = .ok (.return_, 1) := by decide +kernel
theorem dJ3_checkIndex_8e157_0 : decode cJ3_checkIndex_8e157 0 = .ok (.iload_n 0, 1) := by decide +kernel
theorem dJ3_checkIndex_8e157_1 : decode cJ3_checkIndex_8e157 1 = .ok (.ifCond .lt 8, 3) := by decide +kernel
theorem dJ3_checkIndex_8e157_4 : decode cJ3_checkIndex_8e157 4 = .ok (.iload_n 0, 1) := by decide +kernel
theorem dJ3_checkIndex_8e157_5 : decode cJ3_checkIndex_8e157 5 = .ok (.iload_n 1, 1) := by decide +kernel
theorem dJ3_checkIndex_8e157_6 : decode cJ3_checkIndex_8e157 6 = .ok (.if_icmp .lt 10, 3) := by decide +kernel
theorem dJ3_checkIndex_8e157_9 : decode cJ3_checkIndex_8e157 9 = .ok (.aload_n 2, 1) := by decide +kernel
theorem dJ3_checkIndex_8e157_10 : decode cJ3_checkIndex_8e157 10 = .ok (.iload_n 0, 1) := by decide +kernel
theorem dJ3_checkIndex_8e157_11 : decode cJ3_checkIndex_8e157 11 = .ok (.iload_n 1, 1) := by decide +kernel
theorem dJ3_checkIndex_8e157_12 : decode cJ3_checkIndex_8e157 12 = .ok (.invokestatic 95, 3) := by decide +kernel
theorem dJ3_checkIndex_8e157_15 : decode cJ3_checkIndex_8e157 15 = .ok (.athrow, 1) := by decide +kernel
theorem dJ3_checkIndex_8e157_16 : decode cJ3_checkIndex_8e157 16 = .ok (.iload_n 0, 1) := by decide +kernel
theorem dJ3_checkIndex_8e157_17 : decode cJ3_checkIndex_8e157 17 = .ok (.ireturn, 1) := by decide +kernel
theorem dJ7_fill_53178_0 : decode cJ7_fill_53178 0 = .ok (.iconst 0, 1) := by decide +kernel
theorem dJ7_fill_53178_1 : decode cJ7_fill_53178 1 = .ok (.istore_n 2, 1) := by decide +kernel
theorem dJ7_fill_53178_2 : decode cJ7_fill_53178 2 = .ok (.aload_n 0, 1) := by decide +kernel
theorem dJ7_fill_53178_3 : decode cJ7_fill_53178 3 = .ok (.arraylength, 1) := by decide +kernel
theorem dJ7_fill_53178_4 : decode cJ7_fill_53178 4 = .ok (.istore_n 3, 1) := by decide +kernel
theorem dJ7_fill_53178_5 : decode cJ7_fill_53178 5 = .ok (.iload_n 2, 1) := by decide +kernel
theorem dJ7_fill_53178_6 : decode cJ7_fill_53178 6 = .ok (.iload_n 3, 1) := by decide +kernel
theorem dJ7_fill_53178_7 : decode cJ7_fill_53178 7 = .ok (.if_icmp .ge 13, 3) := by decide +kernel
theorem dJ7_fill_53178_10 : decode cJ7_fill_53178 10 = .ok (.aload_n 0, 1) := by decide +kernel
theorem dJ7_fill_53178_11 : decode cJ7_fill_53178 11 = .ok (.iload_n 2, 1) := by decide +kernel
theorem dJ7_fill_53178_12 : decode cJ7_fill_53178 12 = .ok (.iload_n 1, 1) := by decide +kernel
theorem dJ7_fill_53178_13 : decode cJ7_fill_53178 13 = .ok (.iastore, 1) := by decide +kernel
theorem dJ7_fill_53178_14 : decode cJ7_fill_53178 14 = .ok (.iinc 2 1, 3) := by decide +kernel
theorem dJ7_fill_53178_17 : decode cJ7_fill_53178 17 = .ok (.goto (-12), 3) := by decide +kernel
theorem dJ7_fill_53178_20 : decode cJ7_fill_53178 20 = .ok (.return_, 1) := by decide +kernel
theorem dJ9_max_7cf53_0 : decode cJ9_max_7cf53 0 = .ok (.iload_n 0, 1) := by decide +kernel
theorem dJ9_max_7cf53_1 : decode cJ9_max_7cf53 1 = .ok (.iload_n 1, 1) := by decide +kernel
theorem dJ9_max_7cf53_2 : decode cJ9_max_7cf53 2 = .ok (.if_icmp .lt 7, 3) := by decide +kernel
theorem dJ9_max_7cf53_5 : decode cJ9_max_7cf53 5 = .ok (.iload_n 0, 1) := by decide +kernel
theorem dJ9_max_7cf53_6 : decode cJ9_max_7cf53 6 = .ok (.goto 4, 3) := by decide +kernel
theorem dJ9_max_7cf53_9 : decode cJ9_max_7cf53 9 = .ok (.iload_n 1, 1) := by decide +kernel
theorem dJ9_max_7cf53_10 : decode cJ9_max_7cf53 10 = .ok (.ireturn, 1) := by decide +kernel
theorem dJ9_min_7cf53_0 : decode cJ9_min_7cf53 0 = .ok (.iload_n 0, 1) := by decide +kernel
theorem dJ9_min_7cf53_1 : decode cJ9_min_7cf53 1 = .ok (.iload_n 1, 1) := by decide +kernel
theorem dJ9_min_7cf53_2 : decode cJ9_min_7cf53 2 = .ok (.if_icmp .gt 7, 3) := by decide +kernel
theorem dJ9_min_7cf53_5 : decode cJ9_min_7cf53 5 = .ok (.iload_n 0, 1) := by decide +kernel
theorem dJ9_min_7cf53_6 : decode cJ9_min_7cf53 6 = .ok (.goto 4, 3) := by decide +kernel
theorem dJ9_min_7cf53_9 : decode cJ9_min_7cf53 9 = .ok (.iload_n 1, 1) := by decide +kernel
theorem dJ9_min_7cf53_10 : decode cJ9_min_7cf53 10 = .ok (.ireturn, 1) := by decide +kernel
theorem dX0_isClass_0 : decode cX0_isClass 0 = .ok (.iload_n 0, 1) := by decide +kernel
theorem dX0_isClass_1 : decode cX0_isClass 1 = .ok (.iconst 1, 1) := by decide +kernel
theorem dX0_isClass_2 : decode cX0_isClass 2 = .ok (.if_icmp .lt 24, 3) := by decide +kernel
theorem dX0_isClass_5 : decode cX0_isClass 5 = .ok (.iload_n 0, 1) := by decide +kernel
theorem dX0_isClass_6 : decode cX0_isClass 6 = .ok (.bipush 16, 2) := by decide +kernel
theorem dX0_isClass_8 : decode cX0_isClass 8 = .ok (.if_icmp .gt 18, 3) := by decide +kernel
theorem dX0_isClass_11 : decode cX0_isClass 11 = .ok (.iload_n 1, 1) := by decide +kernel
theorem dX0_isClass_12 : decode cX0_isClass 12 = .ok (.iconst 1, 1) := by decide +kernel
theorem dX0_isClass_13 : decode cX0_isClass 13 = .ok (.if_icmp .lt 13, 3) := by decide +kernel
theorem dX0_isClass_16 : decode cX0_isClass 16 = .ok (.iload_n 0, 1) := by decide +kernel
theorem dX0_isClass_17 : decode cX0_isClass 17 = .ok (.iload_n 1, 1) := by decide +kernel
theorem dX0_isClass_18 : decode cX0_isClass 18 = .ok (.irem, 1) := by decide +kernel
theorem dX0_isClass_19 : decode cX0_isClass 19 = .ok (.ifCond .ne 7, 3) := by decide +kernel
theorem dX0_isClass_22 : decode cX0_isClass 22 = .ok (.iconst 1, 1) := by decide +kernel
theorem dX0_isClass_23 : decode cX0_isClass 23 = .ok (.goto 4, 3) := by decide +kernel
theorem dX0_isClass_26 : decode cX0_isClass 26 = .ok (.iconst 0, 1) := by decide +kernel
theorem dX0_isClass_27 : decode cX0_isClass 27 = .ok (.ireturn, 1) := by decide +kernel
theorem dX0_homeOf_0 : decode cX0_homeOf 0 = .ok (.iload_n 1, 1) := by decide +kernel
theorem dX0_homeOf_1 : decode cX0_homeOf 1 = .ok (.iconst 1, 1) := by decide +kernel
theorem dX0_homeOf_2 : decode cX0_homeOf 2 = .ok (.if_icmp .lt 15, 3) := by decide +kernel
theorem dX0_homeOf_5 : decode cX0_homeOf 5 = .ok (.iload_n 0, 1) := by decide +kernel
theorem dX0_homeOf_6 : decode cX0_homeOf 6 = .ok (.iload_n 1, 1) := by decide +kernel
theorem dX0_homeOf_7 : decode cX0_homeOf 7 = .ok (.iadd, 1) := by decide +kernel
theorem dX0_homeOf_8 : decode cX0_homeOf 8 = .ok (.iconst 1, 1) := by decide +kernel
theorem dX0_homeOf_9 : decode cX0_homeOf 9 = .ok (.isub, 1) := by decide +kernel
theorem dX0_homeOf_10 : decode cX0_homeOf 10 = .ok (.iload_n 1, 1) := by decide +kernel
theorem dX0_homeOf_11 : decode cX0_homeOf 11 = .ok (.idiv, 1) := by decide +kernel
theorem dX0_homeOf_12 : decode cX0_homeOf 12 = .ok (.iload_n 1, 1) := by decide +kernel
theorem dX0_homeOf_13 : decode cX0_homeOf 13 = .ok (.imul, 1) := by decide +kernel
theorem dX0_homeOf_14 : decode cX0_homeOf 14 = .ok (.goto 4, 3) := by decide +kernel
theorem dX0_homeOf_17 : decode cX0_homeOf 17 = .ok (.iload_n 0, 1) := by decide +kernel
theorem dX0_homeOf_18 : decode cX0_homeOf 18 = .ok (.ireturn, 1) := by decide +kernel
theorem dX0_framesOf_0 : decode cX0_framesOf 0 = .ok (.iload_n 0, 1) := by decide +kernel
theorem dX0_framesOf_1 : decode cX0_framesOf 1 = .ok (.iconst 1, 1) := by decide +kernel
theorem dX0_framesOf_2 : decode cX0_framesOf 2 = .ok (.if_icmp .ge 5, 3) := by decide +kernel
theorem dX0_framesOf_5 : decode cX0_framesOf 5 = .ok (.iconst 0, 1) := by decide +kernel
theorem dX0_framesOf_6 : decode cX0_framesOf 6 = .ok (.ireturn, 1) := by decide +kernel
theorem dX0_framesOf_7 : decode cX0_framesOf 7 = .ok (.iconst 1, 1) := by decide +kernel
theorem dX0_framesOf_8 : decode cX0_framesOf 8 = .ok (.istore_n 1, 1) := by decide +kernel
theorem dX0_framesOf_9 : decode cX0_framesOf 9 = .ok (.iconst 2, 1) := by decide +kernel
theorem dX0_framesOf_10 : decode cX0_framesOf 10 = .ok (.istore_n 2, 1) := by decide +kernel
theorem dX0_framesOf_11 : decode cX0_framesOf 11 = .ok (.iload_n 2, 1) := by decide +kernel
theorem dX0_framesOf_12 : decode cX0_framesOf 12 = .ok (.iconst 4, 1) := by decide +kernel
theorem dX0_framesOf_13 : decode cX0_framesOf 13 = .ok (.if_icmp .gt 30, 3) := by decide +kernel
theorem dX0_framesOf_16 : decode cX0_framesOf 16 = .ok (.bipush 16, 2) := by decide +kernel
theorem dX0_framesOf_18 : decode cX0_framesOf 18 = .ok (.iload_n 2, 1) := by decide +kernel
theorem dX0_framesOf_19 : decode cX0_framesOf 19 = .ok (.imul, 1) := by decide +kernel
theorem dX0_framesOf_20 : decode cX0_framesOf 20 = .ok (.iload_n 0, 1) := by decide +kernel
theorem dX0_framesOf_21 : decode cX0_framesOf 21 = .ok (.irem, 1) := by decide +kernel
theorem dX0_framesOf_22 : decode cX0_framesOf 22 = .ok (.iload_n 1, 1) := by decide +kernel
theorem dX0_framesOf_23 : decode cX0_framesOf 23 = .ok (.imul, 1) := by decide +kernel
theorem dX0_framesOf_24 : decode cX0_framesOf 24 = .ok (.bipush 16, 2) := by decide +kernel
theorem dX0_framesOf_26 : decode cX0_framesOf 26 = .ok (.iload_n 1, 1) := by decide +kernel
theorem dX0_framesOf_27 : decode cX0_framesOf 27 = .ok (.imul, 1) := by decide +kernel
theorem dX0_framesOf_28 : decode cX0_framesOf 28 = .ok (.iload_n 0, 1) := by decide +kernel
theorem dX0_framesOf_29 : decode cX0_framesOf 29 = .ok (.irem, 1) := by decide +kernel
theorem dX0_framesOf_30 : decode cX0_framesOf 30 = .ok (.iload_n 2, 1) := by decide +kernel
theorem dX0_framesOf_31 : decode cX0_framesOf 31 = .ok (.imul, 1) := by decide +kernel
theorem dX0_framesOf_32 : decode cX0_framesOf 32 = .ok (.if_icmp .ge 5, 3) := by decide +kernel
theorem dX0_framesOf_35 : decode cX0_framesOf 35 = .ok (.iload_n 2, 1) := by decide +kernel
theorem dX0_framesOf_36 : decode cX0_framesOf 36 = .ok (.istore_n 1, 1) := by decide +kernel
theorem dX0_framesOf_37 : decode cX0_framesOf 37 = .ok (.iinc 2 1, 3) := by decide +kernel
theorem dX0_framesOf_40 : decode cX0_framesOf 40 = .ok (.goto (-29), 3) := by decide +kernel
theorem dX0_framesOf_43 : decode cX0_framesOf 43 = .ok (.iload_n 1, 1) := by decide +kernel
theorem dX0_framesOf_44 : decode cX0_framesOf 44 = .ok (.ireturn, 1) := by decide +kernel
theorem dX0_slotsOf_0 : decode cX0_slotsOf 0 = .ok (.iload_n 0, 1) := by decide +kernel
theorem dX0_slotsOf_1 : decode cX0_slotsOf 1 = .ok (.iconst 1, 1) := by decide +kernel
theorem dX0_slotsOf_2 : decode cX0_slotsOf 2 = .ok (.if_icmp .ge 7, 3) := by decide +kernel
theorem dX0_slotsOf_5 : decode cX0_slotsOf 5 = .ok (.iconst 0, 1) := by decide +kernel
theorem dX0_slotsOf_6 : decode cX0_slotsOf 6 = .ok (.goto 12, 3) := by decide +kernel
theorem dX0_slotsOf_9 : decode cX0_slotsOf 9 = .ok (.bipush 16, 2) := by decide +kernel
theorem dX0_slotsOf_11 : decode cX0_slotsOf 11 = .ok (.iload_n 0, 1) := by decide +kernel
theorem dX0_slotsOf_12 : decode cX0_slotsOf 12 = .ok (.invokestatic 11, 3) := by decide +kernel
theorem dX0_slotsOf_15 : decode cX0_slotsOf 15 = .ok (.imul, 1) := by decide +kernel
theorem dX0_slotsOf_16 : decode cX0_slotsOf 16 = .ok (.iload_n 0, 1) := by decide +kernel
theorem dX0_slotsOf_17 : decode cX0_slotsOf 17 = .ok (.idiv, 1) := by decide +kernel
theorem dX0_slotsOf_18 : decode cX0_slotsOf 18 = .ok (.ireturn, 1) := by decide +kernel
theorem dX0_spareOf_0 : decode cX0_spareOf 0 = .ok (.iload_n 0, 1) := by decide +kernel
theorem dX0_spareOf_1 : decode cX0_spareOf 1 = .ok (.iconst 1, 1) := by decide +kernel
theorem dX0_spareOf_2 : decode cX0_spareOf 2 = .ok (.if_icmp .ge 7, 3) := by decide +kernel
theorem dX0_spareOf_5 : decode cX0_spareOf 5 = .ok (.iconst 0, 1) := by decide +kernel
theorem dX0_spareOf_6 : decode cX0_spareOf 6 = .ok (.goto 12, 3) := by decide +kernel
theorem dX0_spareOf_9 : decode cX0_spareOf 9 = .ok (.bipush 16, 2) := by decide +kernel
theorem dX0_spareOf_11 : decode cX0_spareOf 11 = .ok (.iload_n 0, 1) := by decide +kernel
theorem dX0_spareOf_12 : decode cX0_spareOf 12 = .ok (.invokestatic 11, 3) := by decide +kernel
theorem dX0_spareOf_15 : decode cX0_spareOf 15 = .ok (.imul, 1) := by decide +kernel
theorem dX0_spareOf_16 : decode cX0_spareOf 16 = .ok (.iload_n 0, 1) := by decide +kernel
theorem dX0_spareOf_17 : decode cX0_spareOf 17 = .ok (.irem, 1) := by decide +kernel
theorem dX0_spareOf_18 : decode cX0_spareOf 18 = .ok (.ireturn, 1) := by decide +kernel
theorem dX1_init_0 : decode cX1_init 0 = .ok (.aload_n 0, 1) := by decide +kernel
theorem dX1_init_1 : decode cX1_init 1 = .ok (.invokespecial 3, 3) := by decide +kernel
theorem dX1_init_4 : decode cX1_init 4 = .ok (.aload_n 0, 1) := by decide +kernel
theorem dX1_init_5 : decode cX1_init 5 = .ok (.bipush 16, 2) := by decide +kernel
theorem dX1_init_7 : decode cX1_init 7 = .ok (.newarray .int, 2) := by decide +kernel
theorem dX1_init_9 : decode cX1_init 9 = .ok (.putfield 9, 3) := by decide +kernel
theorem dX1_init_12 : decode cX1_init 12 = .ok (.aload_n 0, 1) := by decide +kernel
theorem dX1_init_13 : decode cX1_init 13 = .ok (.bipush 17, 2) := by decide +kernel
theorem dX1_init_15 : decode cX1_init 15 = .ok (.newarray .int, 2) := by decide +kernel
theorem dX1_init_17 : decode cX1_init 17 = .ok (.putfield 15, 3) := by decide +kernel
theorem dX1_init_20 : decode cX1_init 20 = .ok (.aload_n 0, 1) := by decide +kernel
theorem dX1_init_21 : decode cX1_init 21 = .ok (.bipush 17, 2) := by decide +kernel
theorem dX1_init_23 : decode cX1_init 23 = .ok (.newarray .int, 2) := by decide +kernel
theorem dX1_init_25 : decode cX1_init 25 = .ok (.putfield 18, 3) := by decide +kernel
theorem dX1_init_28 : decode cX1_init 28 = .ok (.aload_n 0, 1) := by decide +kernel
theorem dX1_init_29 : decode cX1_init 29 = .ok (.bipush 16, 2) := by decide +kernel
theorem dX1_init_31 : decode cX1_init 31 = .ok (.newarray .int, 2) := by decide +kernel
theorem dX1_init_33 : decode cX1_init 33 = .ok (.putfield 21, 3) := by decide +kernel
theorem dX1_init_36 : decode cX1_init 36 = .ok (.aload_n 0, 1) := by decide +kernel
theorem dX1_init_37 : decode cX1_init 37 = .ok (.bipush 16, 2) := by decide +kernel
theorem dX1_init_39 : decode cX1_init 39 = .ok (.newarray .int, 2) := by decide +kernel
theorem dX1_init_41 : decode cX1_init 41 = .ok (.putfield 24, 3) := by decide +kernel
theorem dX1_init_44 : decode cX1_init 44 = .ok (.aload_n 0, 1) := by decide +kernel
theorem dX1_init_45 : decode cX1_init 45 = .ok (.bipush 16, 2) := by decide +kernel
theorem dX1_init_47 : decode cX1_init 47 = .ok (.newarray .int, 2) := by decide +kernel
theorem dX1_init_49 : decode cX1_init 49 = .ok (.putfield 27, 3) := by decide +kernel
theorem dX1_init_52 : decode cX1_init 52 = .ok (.aload_n 0, 1) := by decide +kernel
theorem dX1_init_53 : decode cX1_init 53 = .ok (.bipush 16, 2) := by decide +kernel
theorem dX1_init_55 : decode cX1_init 55 = .ok (.newarray .int, 2) := by decide +kernel
theorem dX1_init_57 : decode cX1_init 57 = .ok (.putfield 30, 3) := by decide +kernel
theorem dX1_init_60 : decode cX1_init 60 = .ok (.return_, 1) := by decide +kernel
theorem dX1_isWordSize_0 : decode cX1_isWordSize 0 = .ok (.iload_n 0, 1) := by decide +kernel
theorem dX1_isWordSize_1 : decode cX1_isWordSize 1 = .ok (.iconst 2, 1) := by decide +kernel
theorem dX1_isWordSize_2 : decode cX1_isWordSize 2 = .ok (.if_icmp .ne 7, 3) := by decide +kernel
theorem dX1_isWordSize_5 : decode cX1_isWordSize 5 = .ok (.iconst 1, 1) := by decide +kernel
theorem dX1_isWordSize_6 : decode cX1_isWordSize 6 = .ok (.goto 4, 3) := by decide +kernel
theorem dX1_isWordSize_9 : decode cX1_isWordSize 9 = .ok (.iconst 0, 1) := by decide +kernel
theorem dX1_isWordSize_10 : decode cX1_isWordSize 10 = .ok (.ireturn, 1) := by decide +kernel
theorem dX1_measure_0 : decode cX1_measure 0 = .ok (.iload_n 2, 1) := by decide +kernel
theorem dX1_measure_1 : decode cX1_measure 1 = .ok (.ifCond .lt 12, 3) := by decide +kernel
theorem dX1_measure_4 : decode cX1_measure 4 = .ok (.iload_n 2, 1) := by decide +kernel
theorem dX1_measure_5 : decode cX1_measure 5 = .ok (.aload_n 1, 1) := by decide +kernel
theorem dX1_measure_6 : decode cX1_measure 6 = .ok (.arraylength, 1) := by decide +kernel
theorem dX1_measure_7 : decode cX1_measure 7 = .ok (.bipush 16, 2) := by decide +kernel
theorem dX1_measure_9 : decode cX1_measure 9 = .ok (.isub, 1) := by decide +kernel
theorem dX1_measure_10 : decode cX1_measure 10 = .ok (.if_icmp .le 4, 3) := by decide +kernel
theorem dX1_measure_13 : decode cX1_measure 13 = .ok (.return_, 1) := by decide +kernel
theorem dX1_measure_14 : decode cX1_measure 14 = .ok (.aload_n 1, 1) := by decide +kernel
theorem dX1_measure_15 : decode cX1_measure 15 = .ok (.iload_n 2, 1) := by decide +kernel
theorem dX1_measure_16 : decode cX1_measure 16 = .ok (.aload_n 0, 1) := by decide +kernel
theorem dX1_measure_17 : decode cX1_measure 17 = .ok (.getfield 9, 3) := by decide +kernel
theorem dX1_measure_20 : decode cX1_measure 20 = .ok (.iconst 0, 1) := by decide +kernel
theorem dX1_measure_21 : decode cX1_measure 21 = .ok (.bipush 16, 2) := by decide +kernel
theorem dX1_measure_23 : decode cX1_measure 23 = .ok (.invokestatic 33, 3) := by decide +kernel
theorem dX1_measure_26 : decode cX1_measure 26 = .ok (.bipush 15, 2) := by decide +kernel
theorem dX1_measure_28 : decode cX1_measure 28 = .ok (.istore_n 3, 1) := by decide +kernel
theorem dX1_measure_29 : decode cX1_measure 29 = .ok (.iload_n 3, 1) := by decide +kernel
theorem dX1_measure_30 : decode cX1_measure 30 = .ok (.ifCond .lt 14, 3) := by decide +kernel
theorem dX1_measure_33 : decode cX1_measure 33 = .ok (.aload_n 0, 1) := by decide +kernel
theorem dX1_measure_34 : decode cX1_measure 34 = .ok (.iload_n 3, 1) := by decide +kernel
theorem dX1_measure_35 : decode cX1_measure 35 = .ok (.invokevirtual 39, 3) := by decide +kernel
theorem dX1_measure_38 : decode cX1_measure 38 = .ok (.iinc 3 (-1), 3) := by decide +kernel
theorem dX1_measure_41 : decode cX1_measure 41 = .ok (.goto (-12), 3) := by decide +kernel
theorem dX1_measure_44 : decode cX1_measure 44 = .ok (.return_, 1) := by decide +kernel
theorem dX1_choosePieces_0 : decode cX1_choosePieces 0 = .ok (.aload_n 0, 1) := by decide +kernel
theorem dX1_choosePieces_1 : decode cX1_choosePieces 1 = .ok (.iconst 0, 1) := by decide +kernel
theorem dX1_choosePieces_2 : decode cX1_choosePieces 2 = .ok (.putfield 43, 3) := by decide +kernel
theorem dX1_choosePieces_5 : decode cX1_choosePieces 5 = .ok (.iconst 0, 1) := by decide +kernel
theorem dX1_choosePieces_6 : decode cX1_choosePieces 6 = .ok (.istore_n 1, 1) := by decide +kernel
theorem dX1_choosePieces_7 : decode cX1_choosePieces 7 = .ok (.iconst 0, 1) := by decide +kernel
theorem dX1_choosePieces_8 : decode cX1_choosePieces 8 = .ok (.istore_n 2, 1) := by decide +kernel
theorem dX1_choosePieces_9 : decode cX1_choosePieces 9 = .ok (.iload_n 1, 1) := by decide +kernel
theorem dX1_choosePieces_10 : decode cX1_choosePieces 10 = .ok (.bipush 16, 2) := by decide +kernel
theorem dX1_choosePieces_12 : decode cX1_choosePieces 12 = .ok (.if_icmp .ge 29, 3) := by decide +kernel
theorem dX1_choosePieces_15 : decode cX1_choosePieces 15 = .ok (.iload_n 2, 1) := by decide +kernel
theorem dX1_choosePieces_16 : decode cX1_choosePieces 16 = .ok (.bipush 16, 2) := by decide +kernel
theorem dX1_choosePieces_18 : decode cX1_choosePieces 18 = .ok (.if_icmp .ge 23, 3) := by decide +kernel
theorem dX1_choosePieces_21 : decode cX1_choosePieces 21 = .ok (.aload_n 0, 1) := by decide +kernel
theorem dX1_choosePieces_22 : decode cX1_choosePieces 22 = .ok (.iload_n 1, 1) := by decide +kernel
theorem dX1_choosePieces_23 : decode cX1_choosePieces 23 = .ok (.invokevirtual 47, 3) := by decide +kernel
theorem dX1_choosePieces_26 : decode cX1_choosePieces 26 = .ok (.iload_n 1, 1) := by decide +kernel
theorem dX1_choosePieces_27 : decode cX1_choosePieces 27 = .ok (.aload_n 0, 1) := by decide +kernel
theorem dX1_choosePieces_28 : decode cX1_choosePieces 28 = .ok (.getfield 27, 3) := by decide +kernel
theorem dX1_choosePieces_31 : decode cX1_choosePieces 31 = .ok (.iload_n 2, 1) := by decide +kernel
theorem dX1_choosePieces_32 : decode cX1_choosePieces 32 = .ok (.iaload, 1) := by decide +kernel
theorem dX1_choosePieces_33 : decode cX1_choosePieces 33 = .ok (.iadd, 1) := by decide +kernel
theorem dX1_choosePieces_34 : decode cX1_choosePieces 34 = .ok (.istore_n 1, 1) := by decide +kernel
theorem dX1_choosePieces_35 : decode cX1_choosePieces 35 = .ok (.iinc 2 1, 3) := by decide +kernel
theorem dX1_choosePieces_38 : decode cX1_choosePieces 38 = .ok (.goto (-29), 3) := by decide +kernel
theorem dX1_choosePieces_41 : decode cX1_choosePieces 41 = .ok (.return_, 1) := by decide +kernel
theorem dX1_measureFrom_0 : decode cX1_measureFrom 0 = .ok (.aload_n 0, 1) := by decide +kernel
theorem dX1_measureFrom_1 : decode cX1_measureFrom 1 = .ok (.iload_n 1, 1) := by decide +kernel
theorem dX1_measureFrom_2 : decode cX1_measureFrom 2 = .ok (.invokevirtual 50, 3) := by decide +kernel
theorem dX1_measureFrom_5 : decode cX1_measureFrom 5 = .ok (.istore_n 2, 1) := by decide +kernel
theorem dX1_measureFrom_6 : decode cX1_measureFrom 6 = .ok (.aload_n 0, 1) := by decide +kernel
theorem dX1_measureFrom_7 : decode cX1_measureFrom 7 = .ok (.iload_n 1, 1) := by decide +kernel
theorem dX1_measureFrom_8 : decode cX1_measureFrom 8 = .ok (.invokevirtual 54, 3) := by decide +kernel
theorem dX1_measureFrom_11 : decode cX1_measureFrom 11 = .ok (.istore_n 3, 1) := by decide +kernel
theorem dX1_measureFrom_12 : decode cX1_measureFrom 12 = .ok (.aload_n 0, 1) := by decide +kernel
theorem dX1_measureFrom_13 : decode cX1_measureFrom 13 = .ok (.getfield 15, 3) := by decide +kernel
theorem dX1_measureFrom_16 : decode cX1_measureFrom 16 = .ok (.iload_n 1, 1) := by decide +kernel
theorem dX1_measureFrom_17 : decode cX1_measureFrom 17 = .ok (.bipush 99, 2) := by decide +kernel
theorem dX1_measureFrom_19 : decode cX1_measureFrom 19 = .ok (.iastore, 1) := by decide +kernel
theorem dX1_measureFrom_20 : decode cX1_measureFrom 20 = .ok (.aload_n 0, 1) := by decide +kernel
theorem dX1_measureFrom_21 : decode cX1_measureFrom 21 = .ok (.getfield 18, 3) := by decide +kernel
theorem dX1_measureFrom_24 : decode cX1_measureFrom 24 = .ok (.iload_n 1, 1) := by decide +kernel
theorem dX1_measureFrom_25 : decode cX1_measureFrom 25 = .ok (.bipush 16, 2) := by decide +kernel
theorem dX1_measureFrom_27 : decode cX1_measureFrom 27 = .ok (.iastore, 1) := by decide +kernel
theorem dX1_measureFrom_28 : decode cX1_measureFrom 28 = .ok (.iconst 1, 1) := by decide +kernel
theorem dX1_measureFrom_29 : decode cX1_measureFrom 29 = .ok (.istore 4, 2) := by decide +kernel
theorem dX1_measureFrom_31 : decode cX1_measureFrom 31 = .ok (.iload_n 1, 1) := by decide +kernel
theorem dX1_measureFrom_32 : decode cX1_measureFrom 32 = .ok (.iload 4, 2) := by decide +kernel
theorem dX1_measureFrom_34 : decode cX1_measureFrom 34 = .ok (.iadd, 1) := by decide +kernel
theorem dX1_measureFrom_35 : decode cX1_measureFrom 35 = .ok (.bipush 16, 2) := by decide +kernel
theorem dX1_measureFrom_37 : decode cX1_measureFrom 37 = .ok (.if_icmp .gt 90, 3) := by decide +kernel
theorem dX1_measureFrom_40 : decode cX1_measureFrom 40 = .ok (.iload 4, 2) := by decide +kernel
theorem dX1_measureFrom_42 : decode cX1_measureFrom 42 = .ok (.iload_n 2, 1) := by decide +kernel
theorem dX1_measureFrom_43 : decode cX1_measureFrom 43 = .ok (.iload_n 3, 1) := by decide +kernel
theorem dX1_measureFrom_44 : decode cX1_measureFrom 44 = .ok (.invokestatic 57, 3) := by decide +kernel
theorem dX1_measureFrom_47 : decode cX1_measureFrom 47 = .ok (.aload_n 0, 1) := by decide +kernel
theorem dX1_measureFrom_48 : decode cX1_measureFrom 48 = .ok (.getfield 15, 3) := by decide +kernel
theorem dX1_measureFrom_51 : decode cX1_measureFrom 51 = .ok (.iload_n 1, 1) := by decide +kernel
theorem dX1_measureFrom_52 : decode cX1_measureFrom 52 = .ok (.iload 4, 2) := by decide +kernel
theorem dX1_measureFrom_54 : decode cX1_measureFrom 54 = .ok (.iadd, 1) := by decide +kernel
theorem dX1_measureFrom_55 : decode cX1_measureFrom 55 = .ok (.iaload, 1) := by decide +kernel
theorem dX1_measureFrom_56 : decode cX1_measureFrom 56 = .ok (.iadd, 1) := by decide +kernel
theorem dX1_measureFrom_57 : decode cX1_measureFrom 57 = .ok (.istore 5, 2) := by decide +kernel
theorem dX1_measureFrom_59 : decode cX1_measureFrom 59 = .ok (.iconst 1, 1) := by decide +kernel
theorem dX1_measureFrom_60 : decode cX1_measureFrom 60 = .ok (.aload_n 0, 1) := by decide +kernel
theorem dX1_measureFrom_61 : decode cX1_measureFrom 61 = .ok (.getfield 18, 3) := by decide +kernel
theorem dX1_measureFrom_64 : decode cX1_measureFrom 64 = .ok (.iload_n 1, 1) := by decide +kernel
theorem dX1_measureFrom_65 : decode cX1_measureFrom 65 = .ok (.iload 4, 2) := by decide +kernel
theorem dX1_measureFrom_67 : decode cX1_measureFrom 67 = .ok (.iadd, 1) := by decide +kernel
theorem dX1_measureFrom_68 : decode cX1_measureFrom 68 = .ok (.iaload, 1) := by decide +kernel
theorem dX1_measureFrom_69 : decode cX1_measureFrom 69 = .ok (.iadd, 1) := by decide +kernel
theorem dX1_measureFrom_70 : decode cX1_measureFrom 70 = .ok (.istore 6, 2) := by decide +kernel
theorem dX1_measureFrom_72 : decode cX1_measureFrom 72 = .ok (.iload 5, 2) := by decide +kernel
theorem dX1_measureFrom_74 : decode cX1_measureFrom 74 = .ok (.aload_n 0, 1) := by decide +kernel
theorem dX1_measureFrom_75 : decode cX1_measureFrom 75 = .ok (.getfield 15, 3) := by decide +kernel
theorem dX1_measureFrom_78 : decode cX1_measureFrom 78 = .ok (.iload_n 1, 1) := by decide +kernel
theorem dX1_measureFrom_79 : decode cX1_measureFrom 79 = .ok (.iaload, 1) := by decide +kernel
theorem dX1_measureFrom_80 : decode cX1_measureFrom 80 = .ok (.if_icmp .lt 25, 3) := by decide +kernel
theorem dX1_measureFrom_83 : decode cX1_measureFrom 83 = .ok (.iload 5, 2) := by decide +kernel
theorem dX1_measureFrom_85 : decode cX1_measureFrom 85 = .ok (.aload_n 0, 1) := by decide +kernel
theorem dX1_measureFrom_86 : decode cX1_measureFrom 86 = .ok (.getfield 15, 3) := by decide +kernel
theorem dX1_measureFrom_89 : decode cX1_measureFrom 89 = .ok (.iload_n 1, 1) := by decide +kernel
theorem dX1_measureFrom_90 : decode cX1_measureFrom 90 = .ok (.iaload, 1) := by decide +kernel
theorem dX1_measureFrom_91 : decode cX1_measureFrom 91 = .ok (.if_icmp .ne 30, 3) := by decide +kernel
theorem dX1_measureFrom_94 : decode cX1_measureFrom 94 = .ok (.iload 6, 2) := by decide +kernel
theorem dX1_measureFrom_96 : decode cX1_measureFrom 96 = .ok (.aload_n 0, 1) := by decide +kernel
theorem dX1_measureFrom_97 : decode cX1_measureFrom 97 = .ok (.getfield 18, 3) := by decide +kernel
theorem dX1_measureFrom_100 : decode cX1_measureFrom 100 = .ok (.iload_n 1, 1) := by decide +kernel
theorem dX1_measureFrom_101 : decode cX1_measureFrom 101 = .ok (.iaload, 1) := by decide +kernel
theorem dX1_measureFrom_102 : decode cX1_measureFrom 102 = .ok (.if_icmp .ge 19, 3) := by decide +kernel
theorem dX1_measureFrom_105 : decode cX1_measureFrom 105 = .ok (.aload_n 0, 1) := by decide +kernel
theorem dX1_measureFrom_106 : decode cX1_measureFrom 106 = .ok (.getfield 15, 3) := by decide +kernel
theorem dX1_measureFrom_109 : decode cX1_measureFrom 109 = .ok (.iload_n 1, 1) := by decide +kernel
theorem dX1_measureFrom_110 : decode cX1_measureFrom 110 = .ok (.iload 5, 2) := by decide +kernel
theorem dX1_measureFrom_112 : decode cX1_measureFrom 112 = .ok (.iastore, 1) := by decide +kernel
theorem dX1_measureFrom_113 : decode cX1_measureFrom 113 = .ok (.aload_n 0, 1) := by decide +kernel
theorem dX1_measureFrom_114 : decode cX1_measureFrom 114 = .ok (.getfield 18, 3) := by decide +kernel
theorem dX1_measureFrom_117 : decode cX1_measureFrom 117 = .ok (.iload_n 1, 1) := by decide +kernel
theorem dX1_measureFrom_118 : decode cX1_measureFrom 118 = .ok (.iload 6, 2) := by decide +kernel
theorem dX1_measureFrom_120 : decode cX1_measureFrom 120 = .ok (.iastore, 1) := by decide +kernel
theorem dX1_measureFrom_121 : decode cX1_measureFrom 121 = .ok (.iinc 4 1, 3) := by decide +kernel
theorem dX1_measureFrom_124 : decode cX1_measureFrom 124 = .ok (.goto (-93), 3) := by decide +kernel
theorem dX1_measureFrom_127 : decode cX1_measureFrom 127 = .ok (.return_, 1) := by decide +kernel
theorem dX1_leastCost_0 : decode cX1_leastCost 0 = .ok (.iload_n 0, 1) := by decide +kernel
theorem dX1_leastCost_1 : decode cX1_leastCost 1 = .ok (.iconst 2, 1) := by decide +kernel
theorem dX1_leastCost_2 : decode cX1_leastCost 2 = .ok (.if_icmp .lt 10, 3) := by decide +kernel
theorem dX1_leastCost_5 : decode cX1_leastCost 5 = .ok (.iload_n 0, 1) := by decide +kernel
theorem dX1_leastCost_6 : decode cX1_leastCost 6 = .ok (.iload_n 1, 1) := by decide +kernel
theorem dX1_leastCost_7 : decode cX1_leastCost 7 = .ok (.if_icmp .gt 5, 3) := by decide +kernel
theorem dX1_leastCost_10 : decode cX1_leastCost 10 = .ok (.iconst 2, 1) := by decide +kernel
theorem dX1_leastCost_11 : decode cX1_leastCost 11 = .ok (.ireturn, 1) := by decide +kernel
theorem dX1_leastCost_12 : decode cX1_leastCost 12 = .ok (.iload_n 0, 1) := by decide +kernel
theorem dX1_leastCost_13 : decode cX1_leastCost 13 = .ok (.iconst 2, 1) := by decide +kernel
theorem dX1_leastCost_14 : decode cX1_leastCost 14 = .ok (.if_icmp .lt 10, 3) := by decide +kernel
theorem dX1_leastCost_17 : decode cX1_leastCost 17 = .ok (.iload_n 0, 1) := by decide +kernel
theorem dX1_leastCost_18 : decode cX1_leastCost 18 = .ok (.iload_n 2, 1) := by decide +kernel
theorem dX1_leastCost_19 : decode cX1_leastCost 19 = .ok (.if_icmp .gt 5, 3) := by decide +kernel
theorem dX1_leastCost_22 : decode cX1_leastCost 22 = .ok (.iconst 3, 1) := by decide +kernel
theorem dX1_leastCost_23 : decode cX1_leastCost 23 = .ok (.ireturn, 1) := by decide +kernel
theorem dX1_leastCost_24 : decode cX1_leastCost 24 = .ok (.iload_n 0, 1) := by decide +kernel
theorem dX1_leastCost_25 : decode cX1_leastCost 25 = .ok (.bipush 8, 2) := by decide +kernel
theorem dX1_leastCost_27 : decode cX1_leastCost 27 = .ok (.if_icmp .gt 9, 3) := by decide +kernel
theorem dX1_leastCost_30 : decode cX1_leastCost 30 = .ok (.iload_n 0, 1) := by decide +kernel
theorem dX1_leastCost_31 : decode cX1_leastCost 31 = .ok (.iconst 1, 1) := by decide +kernel
theorem dX1_leastCost_32 : decode cX1_leastCost 32 = .ok (.iadd, 1) := by decide +kernel
theorem dX1_leastCost_33 : decode cX1_leastCost 33 = .ok (.goto 5, 3) := by decide +kernel
theorem dX1_leastCost_36 : decode cX1_leastCost 36 = .ok (.bipush 99, 2) := by decide +kernel
theorem dX1_leastCost_38 : decode cX1_leastCost 38 = .ok (.ireturn, 1) := by decide +kernel
theorem dX1_choosePiece_0 : decode cX1_choosePiece 0 = .ok (.aload_n 0, 1) := by decide +kernel
theorem dX1_choosePiece_1 : decode cX1_choosePiece 1 = .ok (.iload_n 1, 1) := by decide +kernel
theorem dX1_choosePiece_2 : decode cX1_choosePiece 2 = .ok (.aload_n 0, 1) := by decide +kernel
theorem dX1_choosePiece_3 : decode cX1_choosePiece 3 = .ok (.iload_n 1, 1) := by decide +kernel
theorem dX1_choosePiece_4 : decode cX1_choosePiece 4 = .ok (.invokevirtual 50, 3) := by decide +kernel
theorem dX1_choosePiece_7 : decode cX1_choosePiece 7 = .ok (.iconst 2, 1) := by decide +kernel
theorem dX1_choosePiece_8 : decode cX1_choosePiece 8 = .ok (.invokevirtual 61, 3) := by decide +kernel
theorem dX1_choosePiece_11 : decode cX1_choosePiece 11 = .ok (.istore_n 2, 1) := by decide +kernel
theorem dX1_choosePiece_12 : decode cX1_choosePiece 12 = .ok (.iload_n 2, 1) := by decide +kernel
theorem dX1_choosePiece_13 : decode cX1_choosePiece 13 = .ok (.ifCond .le 12, 3) := by decide +kernel
theorem dX1_choosePiece_16 : decode cX1_choosePiece 16 = .ok (.aload_n 0, 1) := by decide +kernel
theorem dX1_choosePiece_17 : decode cX1_choosePiece 17 = .ok (.iconst 0, 1) := by decide +kernel
theorem dX1_choosePiece_18 : decode cX1_choosePiece 18 = .ok (.iload_n 1, 1) := by decide +kernel
theorem dX1_choosePiece_19 : decode cX1_choosePiece 19 = .ok (.iload_n 2, 1) := by decide +kernel
theorem dX1_choosePiece_20 : decode cX1_choosePiece 20 = .ok (.iconst 0, 1) := by decide +kernel
theorem dX1_choosePiece_21 : decode cX1_choosePiece 21 = .ok (.invokevirtual 64, 3) := by decide +kernel
theorem dX1_choosePiece_24 : decode cX1_choosePiece 24 = .ok (.return_, 1) := by decide +kernel
theorem dX1_choosePiece_25 : decode cX1_choosePiece 25 = .ok (.aload_n 0, 1) := by decide +kernel
theorem dX1_choosePiece_26 : decode cX1_choosePiece 26 = .ok (.iload_n 1, 1) := by decide +kernel
theorem dX1_choosePiece_27 : decode cX1_choosePiece 27 = .ok (.aload_n 0, 1) := by decide +kernel
theorem dX1_choosePiece_28 : decode cX1_choosePiece 28 = .ok (.iload_n 1, 1) := by decide +kernel
theorem dX1_choosePiece_29 : decode cX1_choosePiece 29 = .ok (.invokevirtual 54, 3) := by decide +kernel
theorem dX1_choosePiece_32 : decode cX1_choosePiece 32 = .ok (.iconst 3, 1) := by decide +kernel
theorem dX1_choosePiece_33 : decode cX1_choosePiece 33 = .ok (.invokevirtual 61, 3) := by decide +kernel
theorem dX1_choosePiece_36 : decode cX1_choosePiece 36 = .ok (.istore_n 2, 1) := by decide +kernel
theorem dX1_choosePiece_37 : decode cX1_choosePiece 37 = .ok (.iload_n 2, 1) := by decide +kernel
theorem dX1_choosePiece_38 : decode cX1_choosePiece 38 = .ok (.ifCond .le 17, 3) := by decide +kernel
theorem dX1_choosePiece_41 : decode cX1_choosePiece 41 = .ok (.aload_n 0, 1) := by decide +kernel
theorem dX1_choosePiece_42 : decode cX1_choosePiece 42 = .ok (.iconst 1, 1) := by decide +kernel
theorem dX1_choosePiece_43 : decode cX1_choosePiece 43 = .ok (.iload_n 1, 1) := by decide +kernel
theorem dX1_choosePiece_44 : decode cX1_choosePiece 44 = .ok (.iload_n 2, 1) := by decide +kernel
theorem dX1_choosePiece_45 : decode cX1_choosePiece 45 = .ok (.aload_n 0, 1) := by decide +kernel
theorem dX1_choosePiece_46 : decode cX1_choosePiece 46 = .ok (.iload_n 1, 1) := by decide +kernel
theorem dX1_choosePiece_47 : decode cX1_choosePiece 47 = .ok (.iload_n 2, 1) := by decide +kernel
theorem dX1_choosePiece_48 : decode cX1_choosePiece 48 = .ok (.invokevirtual 68, 3) := by decide +kernel
theorem dX1_choosePiece_51 : decode cX1_choosePiece 51 = .ok (.invokevirtual 64, 3) := by decide +kernel
theorem dX1_choosePiece_54 : decode cX1_choosePiece 54 = .ok (.return_, 1) := by decide +kernel
theorem dX1_choosePiece_55 : decode cX1_choosePiece 55 = .ok (.aload_n 0, 1) := by decide +kernel
theorem dX1_choosePiece_56 : decode cX1_choosePiece 56 = .ok (.iconst 2, 1) := by decide +kernel
theorem dX1_choosePiece_57 : decode cX1_choosePiece 57 = .ok (.iload_n 1, 1) := by decide +kernel
theorem dX1_choosePiece_58 : decode cX1_choosePiece 58 = .ok (.aload_n 0, 1) := by decide +kernel
theorem dX1_choosePiece_59 : decode cX1_choosePiece 59 = .ok (.iload_n 1, 1) := by decide +kernel
theorem dX1_choosePiece_60 : decode cX1_choosePiece 60 = .ok (.invokevirtual 72, 3) := by decide +kernel
theorem dX1_choosePiece_63 : decode cX1_choosePiece 63 = .ok (.iconst 0, 1) := by decide +kernel
theorem dX1_choosePiece_64 : decode cX1_choosePiece 64 = .ok (.invokevirtual 64, 3) := by decide +kernel
theorem dX1_choosePiece_67 : decode cX1_choosePiece 67 = .ok (.return_, 1) := by decide +kernel
theorem dX1_addPiece_0 : decode cX1_addPiece 0 = .ok (.aload_n 0, 1) := by decide +kernel
theorem dX1_addPiece_1 : decode cX1_addPiece 1 = .ok (.getfield 43, 3) := by decide +kernel
theorem dX1_addPiece_4 : decode cX1_addPiece 4 = .ok (.bipush 16, 2) := by decide +kernel
theorem dX1_addPiece_6 : decode cX1_addPiece 6 = .ok (.if_icmp .ge 54, 3) := by decide +kernel
theorem dX1_addPiece_9 : decode cX1_addPiece 9 = .ok (.aload_n 0, 1) := by decide +kernel
theorem dX1_addPiece_10 : decode cX1_addPiece 10 = .ok (.getfield 21, 3) := by decide +kernel
theorem dX1_addPiece_13 : decode cX1_addPiece 13 = .ok (.aload_n 0, 1) := by decide +kernel
theorem dX1_addPiece_14 : decode cX1_addPiece 14 = .ok (.getfield 43, 3) := by decide +kernel
theorem dX1_addPiece_17 : decode cX1_addPiece 17 = .ok (.iload_n 1, 1) := by decide +kernel
theorem dX1_addPiece_18 : decode cX1_addPiece 18 = .ok (.iastore, 1) := by decide +kernel
theorem dX1_addPiece_19 : decode cX1_addPiece 19 = .ok (.aload_n 0, 1) := by decide +kernel
theorem dX1_addPiece_20 : decode cX1_addPiece 20 = .ok (.getfield 24, 3) := by decide +kernel
theorem dX1_addPiece_23 : decode cX1_addPiece 23 = .ok (.aload_n 0, 1) := by decide +kernel
theorem dX1_addPiece_24 : decode cX1_addPiece 24 = .ok (.getfield 43, 3) := by decide +kernel
theorem dX1_addPiece_27 : decode cX1_addPiece 27 = .ok (.iload_n 2, 1) := by decide +kernel
theorem dX1_addPiece_28 : decode cX1_addPiece 28 = .ok (.iastore, 1) := by decide +kernel
theorem dX1_addPiece_29 : decode cX1_addPiece 29 = .ok (.aload_n 0, 1) := by decide +kernel
theorem dX1_addPiece_30 : decode cX1_addPiece 30 = .ok (.getfield 27, 3) := by decide +kernel
theorem dX1_addPiece_33 : decode cX1_addPiece 33 = .ok (.aload_n 0, 1) := by decide +kernel
theorem dX1_addPiece_34 : decode cX1_addPiece 34 = .ok (.getfield 43, 3) := by decide +kernel
theorem dX1_addPiece_37 : decode cX1_addPiece 37 = .ok (.iload_n 3, 1) := by decide +kernel
theorem dX1_addPiece_38 : decode cX1_addPiece 38 = .ok (.iastore, 1) := by decide +kernel
theorem dX1_addPiece_39 : decode cX1_addPiece 39 = .ok (.aload_n 0, 1) := by decide +kernel
theorem dX1_addPiece_40 : decode cX1_addPiece 40 = .ok (.getfield 30, 3) := by decide +kernel
theorem dX1_addPiece_43 : decode cX1_addPiece 43 = .ok (.aload_n 0, 1) := by decide +kernel
theorem dX1_addPiece_44 : decode cX1_addPiece 44 = .ok (.getfield 43, 3) := by decide +kernel
theorem dX1_addPiece_47 : decode cX1_addPiece 47 = .ok (.iload 4, 2) := by decide +kernel
theorem dX1_addPiece_49 : decode cX1_addPiece 49 = .ok (.iastore, 1) := by decide +kernel
theorem dX1_addPiece_50 : decode cX1_addPiece 50 = .ok (.aload_n 0, 1) := by decide +kernel
theorem dX1_addPiece_51 : decode cX1_addPiece 51 = .ok (.dup, 1) := by decide +kernel
theorem dX1_addPiece_52 : decode cX1_addPiece 52 = .ok (.getfield 43, 3) := by decide +kernel
theorem dX1_addPiece_55 : decode cX1_addPiece 55 = .ok (.iconst 1, 1) := by decide +kernel
theorem dX1_addPiece_56 : decode cX1_addPiece 56 = .ok (.iadd, 1) := by decide +kernel
theorem dX1_addPiece_57 : decode cX1_addPiece 57 = .ok (.putfield 43, 3) := by decide +kernel
theorem dX1_addPiece_60 : decode cX1_addPiece 60 = .ok (.return_, 1) := by decide +kernel
theorem dX1_longestFit_0 : decode cX1_longestFit 0 = .ok (.iload_n 2, 1) := by decide +kernel
theorem dX1_longestFit_1 : decode cX1_longestFit 1 = .ok (.bipush 16, 2) := by decide +kernel
theorem dX1_longestFit_3 : decode cX1_longestFit 3 = .ok (.iload_n 1, 1) := by decide +kernel
theorem dX1_longestFit_4 : decode cX1_longestFit 4 = .ok (.isub, 1) := by decide +kernel
theorem dX1_longestFit_5 : decode cX1_longestFit 5 = .ok (.invokestatic 75, 3) := by decide +kernel
theorem dX1_longestFit_8 : decode cX1_longestFit 8 = .ok (.istore 4, 2) := by decide +kernel
theorem dX1_longestFit_10 : decode cX1_longestFit 10 = .ok (.iload 4, 2) := by decide +kernel
theorem dX1_longestFit_12 : decode cX1_longestFit 12 = .ok (.iconst 2, 1) := by decide +kernel
theorem dX1_longestFit_13 : decode cX1_longestFit 13 = .ok (.if_icmp .lt 32, 3) := by decide +kernel
theorem dX1_longestFit_16 : decode cX1_longestFit 16 = .ok (.iload_n 3, 1) := by decide +kernel
theorem dX1_longestFit_17 : decode cX1_longestFit 17 = .ok (.aload_n 0, 1) := by decide +kernel
theorem dX1_longestFit_18 : decode cX1_longestFit 18 = .ok (.getfield 15, 3) := by decide +kernel
theorem dX1_longestFit_21 : decode cX1_longestFit 21 = .ok (.iload_n 1, 1) := by decide +kernel
theorem dX1_longestFit_22 : decode cX1_longestFit 22 = .ok (.iload 4, 2) := by decide +kernel
theorem dX1_longestFit_24 : decode cX1_longestFit 24 = .ok (.iadd, 1) := by decide +kernel
theorem dX1_longestFit_25 : decode cX1_longestFit 25 = .ok (.iaload, 1) := by decide +kernel
theorem dX1_longestFit_26 : decode cX1_longestFit 26 = .ok (.iadd, 1) := by decide +kernel
theorem dX1_longestFit_27 : decode cX1_longestFit 27 = .ok (.aload_n 0, 1) := by decide +kernel
theorem dX1_longestFit_28 : decode cX1_longestFit 28 = .ok (.getfield 15, 3) := by decide +kernel
theorem dX1_longestFit_31 : decode cX1_longestFit 31 = .ok (.iload_n 1, 1) := by decide +kernel
theorem dX1_longestFit_32 : decode cX1_longestFit 32 = .ok (.iaload, 1) := by decide +kernel
theorem dX1_longestFit_33 : decode cX1_longestFit 33 = .ok (.if_icmp .ne 6, 3) := by decide +kernel
theorem dX1_longestFit_36 : decode cX1_longestFit 36 = .ok (.iload 4, 2) := by decide +kernel
theorem dX1_longestFit_38 : decode cX1_longestFit 38 = .ok (.ireturn, 1) := by decide +kernel
theorem dX1_longestFit_39 : decode cX1_longestFit 39 = .ok (.iinc 4 (-1), 3) := by decide +kernel
theorem dX1_longestFit_42 : decode cX1_longestFit 42 = .ok (.goto (-32), 3) := by decide +kernel
theorem dX1_longestFit_45 : decode cX1_longestFit 45 = .ok (.iconst 0, 1) := by decide +kernel
theorem dX1_longestFit_46 : decode cX1_longestFit 46 = .ok (.ireturn, 1) := by decide +kernel
theorem dX1_longestPlain_0 : decode cX1_longestPlain 0 = .ok (.bipush 8, 2) := by decide +kernel
theorem dX1_longestPlain_2 : decode cX1_longestPlain 2 = .ok (.bipush 16, 2) := by decide +kernel
theorem dX1_longestPlain_4 : decode cX1_longestPlain 4 = .ok (.iload_n 1, 1) := by decide +kernel
theorem dX1_longestPlain_5 : decode cX1_longestPlain 5 = .ok (.isub, 1) := by decide +kernel
theorem dX1_longestPlain_6 : decode cX1_longestPlain 6 = .ok (.invokestatic 75, 3) := by decide +kernel
theorem dX1_longestPlain_9 : decode cX1_longestPlain 9 = .ok (.istore_n 2, 1) := by decide +kernel
theorem dX1_longestPlain_10 : decode cX1_longestPlain 10 = .ok (.iload_n 2, 1) := by decide +kernel
theorem dX1_longestPlain_11 : decode cX1_longestPlain 11 = .ok (.iconst 2, 1) := by decide +kernel
theorem dX1_longestPlain_12 : decode cX1_longestPlain 12 = .ok (.if_icmp .lt 32, 3) := by decide +kernel
theorem dX1_longestPlain_15 : decode cX1_longestPlain 15 = .ok (.iload_n 2, 1) := by decide +kernel
theorem dX1_longestPlain_16 : decode cX1_longestPlain 16 = .ok (.iconst 1, 1) := by decide +kernel
theorem dX1_longestPlain_17 : decode cX1_longestPlain 17 = .ok (.iadd, 1) := by decide +kernel
theorem dX1_longestPlain_18 : decode cX1_longestPlain 18 = .ok (.aload_n 0, 1) := by decide +kernel
theorem dX1_longestPlain_19 : decode cX1_longestPlain 19 = .ok (.getfield 15, 3) := by decide +kernel
theorem dX1_longestPlain_22 : decode cX1_longestPlain 22 = .ok (.iload_n 1, 1) := by decide +kernel
theorem dX1_longestPlain_23 : decode cX1_longestPlain 23 = .ok (.iload_n 2, 1) := by decide +kernel
theorem dX1_longestPlain_24 : decode cX1_longestPlain 24 = .ok (.iadd, 1) := by decide +kernel
theorem dX1_longestPlain_25 : decode cX1_longestPlain 25 = .ok (.iaload, 1) := by decide +kernel
theorem dX1_longestPlain_26 : decode cX1_longestPlain 26 = .ok (.iadd, 1) := by decide +kernel
theorem dX1_longestPlain_27 : decode cX1_longestPlain 27 = .ok (.aload_n 0, 1) := by decide +kernel
theorem dX1_longestPlain_28 : decode cX1_longestPlain 28 = .ok (.getfield 15, 3) := by decide +kernel
theorem dX1_longestPlain_31 : decode cX1_longestPlain 31 = .ok (.iload_n 1, 1) := by decide +kernel
theorem dX1_longestPlain_32 : decode cX1_longestPlain 32 = .ok (.iaload, 1) := by decide +kernel
theorem dX1_longestPlain_33 : decode cX1_longestPlain 33 = .ok (.if_icmp .ne 5, 3) := by decide +kernel
theorem dX1_longestPlain_36 : decode cX1_longestPlain 36 = .ok (.iload_n 2, 1) := by decide +kernel
theorem dX1_longestPlain_37 : decode cX1_longestPlain 37 = .ok (.ireturn, 1) := by decide +kernel
theorem dX1_longestPlain_38 : decode cX1_longestPlain 38 = .ok (.iinc 2 (-1), 3) := by decide +kernel
theorem dX1_longestPlain_41 : decode cX1_longestPlain 41 = .ok (.goto (-31), 3) := by decide +kernel
theorem dX1_longestPlain_44 : decode cX1_longestPlain 44 = .ok (.iconst 1, 1) := by decide +kernel
theorem dX1_longestPlain_45 : decode cX1_longestPlain 45 = .ok (.ireturn, 1) := by decide +kernel
theorem dX1_alikeFrom_0 : decode cX1_alikeFrom 0 = .ok (.iload_n 1, 1) := by decide +kernel
theorem dX1_alikeFrom_1 : decode cX1_alikeFrom 1 = .ok (.iconst 1, 1) := by decide +kernel
theorem dX1_alikeFrom_2 : decode cX1_alikeFrom 2 = .ok (.iadd, 1) := by decide +kernel
theorem dX1_alikeFrom_3 : decode cX1_alikeFrom 3 = .ok (.istore_n 2, 1) := by decide +kernel
theorem dX1_alikeFrom_4 : decode cX1_alikeFrom 4 = .ok (.iload_n 2, 1) := by decide +kernel
theorem dX1_alikeFrom_5 : decode cX1_alikeFrom 5 = .ok (.bipush 16, 2) := by decide +kernel
theorem dX1_alikeFrom_7 : decode cX1_alikeFrom 7 = .ok (.if_icmp .ge 24, 3) := by decide +kernel
theorem dX1_alikeFrom_10 : decode cX1_alikeFrom 10 = .ok (.aload_n 0, 1) := by decide +kernel
theorem dX1_alikeFrom_11 : decode cX1_alikeFrom 11 = .ok (.getfield 9, 3) := by decide +kernel
theorem dX1_alikeFrom_14 : decode cX1_alikeFrom 14 = .ok (.iload_n 2, 1) := by decide +kernel
theorem dX1_alikeFrom_15 : decode cX1_alikeFrom 15 = .ok (.iaload, 1) := by decide +kernel
theorem dX1_alikeFrom_16 : decode cX1_alikeFrom 16 = .ok (.aload_n 0, 1) := by decide +kernel
theorem dX1_alikeFrom_17 : decode cX1_alikeFrom 17 = .ok (.getfield 9, 3) := by decide +kernel
theorem dX1_alikeFrom_20 : decode cX1_alikeFrom 20 = .ok (.iload_n 1, 1) := by decide +kernel
theorem dX1_alikeFrom_21 : decode cX1_alikeFrom 21 = .ok (.iaload, 1) := by decide +kernel
theorem dX1_alikeFrom_22 : decode cX1_alikeFrom 22 = .ok (.if_icmp .ne 9, 3) := by decide +kernel
theorem dX1_alikeFrom_25 : decode cX1_alikeFrom 25 = .ok (.iinc 2 1, 3) := by decide +kernel
theorem dX1_alikeFrom_28 : decode cX1_alikeFrom 28 = .ok (.goto (-24), 3) := by decide +kernel
theorem dX1_alikeFrom_31 : decode cX1_alikeFrom 31 = .ok (.iload_n 2, 1) := by decide +kernel
theorem dX1_alikeFrom_32 : decode cX1_alikeFrom 32 = .ok (.iload_n 1, 1) := by decide +kernel
theorem dX1_alikeFrom_33 : decode cX1_alikeFrom 33 = .ok (.isub, 1) := by decide +kernel
theorem dX1_alikeFrom_34 : decode cX1_alikeFrom 34 = .ok (.ireturn, 1) := by decide +kernel
theorem dX1_longestCopy_0 : decode cX1_longestCopy 0 = .ok (.iconst 0, 1) := by decide +kernel
theorem dX1_longestCopy_1 : decode cX1_longestCopy 1 = .ok (.istore_n 2, 1) := by decide +kernel
theorem dX1_longestCopy_2 : decode cX1_longestCopy 2 = .ok (.iconst 2, 1) := by decide +kernel
theorem dX1_longestCopy_3 : decode cX1_longestCopy 3 = .ok (.istore_n 3, 1) := by decide +kernel
theorem dX1_longestCopy_4 : decode cX1_longestCopy 4 = .ok (.iload_n 3, 1) := by decide +kernel
theorem dX1_longestCopy_5 : decode cX1_longestCopy 5 = .ok (.iload_n 1, 1) := by decide +kernel
theorem dX1_longestCopy_6 : decode cX1_longestCopy 6 = .ok (.if_icmp .gt 20, 3) := by decide +kernel
theorem dX1_longestCopy_9 : decode cX1_longestCopy 9 = .ok (.iload_n 2, 1) := by decide +kernel
theorem dX1_longestCopy_10 : decode cX1_longestCopy 10 = .ok (.aload_n 0, 1) := by decide +kernel
theorem dX1_longestCopy_11 : decode cX1_longestCopy 11 = .ok (.iload_n 1, 1) := by decide +kernel
theorem dX1_longestCopy_12 : decode cX1_longestCopy 12 = .ok (.iload_n 3, 1) := by decide +kernel
theorem dX1_longestCopy_13 : decode cX1_longestCopy 13 = .ok (.invokevirtual 80, 3) := by decide +kernel
theorem dX1_longestCopy_16 : decode cX1_longestCopy 16 = .ok (.invokestatic 83, 3) := by decide +kernel
theorem dX1_longestCopy_19 : decode cX1_longestCopy 19 = .ok (.istore_n 2, 1) := by decide +kernel
theorem dX1_longestCopy_20 : decode cX1_longestCopy 20 = .ok (.iinc 3 1, 3) := by decide +kernel
theorem dX1_longestCopy_23 : decode cX1_longestCopy 23 = .ok (.goto (-19), 3) := by decide +kernel
theorem dX1_longestCopy_26 : decode cX1_longestCopy 26 = .ok (.iload_n 2, 1) := by decide +kernel
theorem dX1_longestCopy_27 : decode cX1_longestCopy 27 = .ok (.ireturn, 1) := by decide +kernel
theorem dX1_leastDistance_0 : decode cX1_leastDistance 0 = .ok (.iconst 2, 1) := by decide +kernel
theorem dX1_leastDistance_1 : decode cX1_leastDistance 1 = .ok (.istore_n 3, 1) := by decide +kernel
theorem dX1_leastDistance_2 : decode cX1_leastDistance 2 = .ok (.iload_n 3, 1) := by decide +kernel
theorem dX1_leastDistance_3 : decode cX1_leastDistance 3 = .ok (.iload_n 1, 1) := by decide +kernel
theorem dX1_leastDistance_4 : decode cX1_leastDistance 4 = .ok (.if_icmp .gt 21, 3) := by decide +kernel
theorem dX1_leastDistance_7 : decode cX1_leastDistance 7 = .ok (.aload_n 0, 1) := by decide +kernel
theorem dX1_leastDistance_8 : decode cX1_leastDistance 8 = .ok (.iload_n 1, 1) := by decide +kernel
theorem dX1_leastDistance_9 : decode cX1_leastDistance 9 = .ok (.iload_n 3, 1) := by decide +kernel
theorem dX1_leastDistance_10 : decode cX1_leastDistance 10 = .ok (.invokevirtual 80, 3) := by decide +kernel
theorem dX1_leastDistance_13 : decode cX1_leastDistance 13 = .ok (.iload_n 2, 1) := by decide +kernel
theorem dX1_leastDistance_14 : decode cX1_leastDistance 14 = .ok (.if_icmp .lt 5, 3) := by decide +kernel
theorem dX1_leastDistance_17 : decode cX1_leastDistance 17 = .ok (.iload_n 3, 1) := by decide +kernel
theorem dX1_leastDistance_18 : decode cX1_leastDistance 18 = .ok (.ireturn, 1) := by decide +kernel
theorem dX1_leastDistance_19 : decode cX1_leastDistance 19 = .ok (.iinc 3 1, 3) := by decide +kernel
theorem dX1_leastDistance_22 : decode cX1_leastDistance 22 = .ok (.goto (-20), 3) := by decide +kernel
theorem dX1_leastDistance_25 : decode cX1_leastDistance 25 = .ok (.iconst 0, 1) := by decide +kernel
theorem dX1_leastDistance_26 : decode cX1_leastDistance 26 = .ok (.ireturn, 1) := by decide +kernel
theorem dX1_copiedFrom_0 : decode cX1_copiedFrom 0 = .ok (.iconst 0, 1) := by decide +kernel
theorem dX1_copiedFrom_1 : decode cX1_copiedFrom 1 = .ok (.istore_n 3, 1) := by decide +kernel
theorem dX1_copiedFrom_2 : decode cX1_copiedFrom 2 = .ok (.iload_n 3, 1) := by decide +kernel
theorem dX1_copiedFrom_3 : decode cX1_copiedFrom 3 = .ok (.bipush 8, 2) := by decide +kernel
theorem dX1_copiedFrom_5 : decode cX1_copiedFrom 5 = .ok (.if_icmp .ge 38, 3) := by decide +kernel
theorem dX1_copiedFrom_8 : decode cX1_copiedFrom 8 = .ok (.iload_n 1, 1) := by decide +kernel
theorem dX1_copiedFrom_9 : decode cX1_copiedFrom 9 = .ok (.iload_n 3, 1) := by decide +kernel
theorem dX1_copiedFrom_10 : decode cX1_copiedFrom 10 = .ok (.iadd, 1) := by decide +kernel
theorem dX1_copiedFrom_11 : decode cX1_copiedFrom 11 = .ok (.bipush 16, 2) := by decide +kernel
theorem dX1_copiedFrom_13 : decode cX1_copiedFrom 13 = .ok (.if_icmp .ge 30, 3) := by decide +kernel
theorem dX1_copiedFrom_16 : decode cX1_copiedFrom 16 = .ok (.aload_n 0, 1) := by decide +kernel
theorem dX1_copiedFrom_17 : decode cX1_copiedFrom 17 = .ok (.getfield 9, 3) := by decide +kernel
theorem dX1_copiedFrom_20 : decode cX1_copiedFrom 20 = .ok (.iload_n 1, 1) := by decide +kernel
theorem dX1_copiedFrom_21 : decode cX1_copiedFrom 21 = .ok (.iload_n 3, 1) := by decide +kernel
theorem dX1_copiedFrom_22 : decode cX1_copiedFrom 22 = .ok (.iadd, 1) := by decide +kernel
theorem dX1_copiedFrom_23 : decode cX1_copiedFrom 23 = .ok (.iaload, 1) := by decide +kernel
theorem dX1_copiedFrom_24 : decode cX1_copiedFrom 24 = .ok (.aload_n 0, 1) := by decide +kernel
theorem dX1_copiedFrom_25 : decode cX1_copiedFrom 25 = .ok (.getfield 9, 3) := by decide +kernel
theorem dX1_copiedFrom_28 : decode cX1_copiedFrom 28 = .ok (.iload_n 1, 1) := by decide +kernel
theorem dX1_copiedFrom_29 : decode cX1_copiedFrom 29 = .ok (.iload_n 3, 1) := by decide +kernel
theorem dX1_copiedFrom_30 : decode cX1_copiedFrom 30 = .ok (.iadd, 1) := by decide +kernel
theorem dX1_copiedFrom_31 : decode cX1_copiedFrom 31 = .ok (.iload_n 2, 1) := by decide +kernel
theorem dX1_copiedFrom_32 : decode cX1_copiedFrom 32 = .ok (.isub, 1) := by decide +kernel
theorem dX1_copiedFrom_33 : decode cX1_copiedFrom 33 = .ok (.iaload, 1) := by decide +kernel
theorem dX1_copiedFrom_34 : decode cX1_copiedFrom 34 = .ok (.if_icmp .ne 9, 3) := by decide +kernel
theorem dX1_copiedFrom_37 : decode cX1_copiedFrom 37 = .ok (.iinc 3 1, 3) := by decide +kernel
theorem dX1_copiedFrom_40 : decode cX1_copiedFrom 40 = .ok (.goto (-38), 3) := by decide +kernel
theorem dX1_copiedFrom_43 : decode cX1_copiedFrom 43 = .ok (.iload_n 3, 1) := by decide +kernel
theorem dX1_copiedFrom_44 : decode cX1_copiedFrom 44 = .ok (.ireturn, 1) := by decide +kernel
theorem dX2_init_0 : decode cX2_init 0 = .ok (.aload_n 0, 1) := by decide +kernel
theorem dX2_init_1 : decode cX2_init 1 = .ok (.invokespecial 3, 3) := by decide +kernel
theorem dX2_init_4 : decode cX2_init 4 = .ok (.aload_n 0, 1) := by decide +kernel
theorem dX2_init_5 : decode cX2_init 5 = .ok (.bipush 10, 2) := by decide +kernel
theorem dX2_init_7 : decode cX2_init 7 = .ok (.anewarray 9, 3) := by decide +kernel
theorem dX2_init_10 : decode cX2_init 10 = .ok (.putfield 11, 3) := by decide +kernel
theorem dX2_init_13 : decode cX2_init 13 = .ok (.return_, 1) := by decide +kernel
theorem dX2_forget_0 : decode cX2_forget 0 = .ok (.aload_n 0, 1) := by decide +kernel
theorem dX2_forget_1 : decode cX2_forget 1 = .ok (.iconst 0, 1) := by decide +kernel
theorem dX2_forget_2 : decode cX2_forget 2 = .ok (.putfield 17, 3) := by decide +kernel
theorem dX2_forget_5 : decode cX2_forget 5 = .ok (.return_, 1) := by decide +kernel
theorem dX2_keep_0 : decode cX2_keep 0 = .ok (.aload_n 0, 1) := by decide +kernel
theorem dX2_keep_1 : decode cX2_keep 1 = .ok (.getfield 21, 3) := by decide +kernel
theorem dX2_keep_4 : decode cX2_keep 4 = .ok (.bipush 10, 2) := by decide +kernel
theorem dX2_keep_6 : decode cX2_keep 6 = .ok (.if_icmp .lt 8, 3) := by decide +kernel
theorem dX2_keep_9 : decode cX2_keep 9 = .ok (.aload_n 0, 1) := by decide +kernel
theorem dX2_keep_10 : decode cX2_keep 10 = .ok (.iconst 0, 1) := by decide +kernel
theorem dX2_keep_11 : decode cX2_keep 11 = .ok (.putfield 21, 3) := by decide +kernel
theorem dX2_keep_14 : decode cX2_keep 14 = .ok (.aload_n 0, 1) := by decide +kernel
theorem dX2_keep_15 : decode cX2_keep 15 = .ok (.getfield 11, 3) := by decide +kernel
theorem dX2_keep_18 : decode cX2_keep 18 = .ok (.aload_n 0, 1) := by decide +kernel
theorem dX2_keep_19 : decode cX2_keep 19 = .ok (.getfield 21, 3) := by decide +kernel
theorem dX2_keep_22 : decode cX2_keep 22 = .ok (.aaload, 1) := by decide +kernel
theorem dX2_keep_23 : decode cX2_keep 23 = .ok (.ifnonnull 19, 3) := by decide +kernel
theorem dX2_keep_26 : decode cX2_keep 26 = .ok (.aload_n 0, 1) := by decide +kernel
theorem dX2_keep_27 : decode cX2_keep 27 = .ok (.getfield 11, 3) := by decide +kernel
theorem dX2_keep_30 : decode cX2_keep 30 = .ok (.aload_n 0, 1) := by decide +kernel
theorem dX2_keep_31 : decode cX2_keep 31 = .ok (.getfield 21, 3) := by decide +kernel
theorem dX2_keep_34 : decode cX2_keep 34 = .ok (.new 9, 3) := by decide +kernel
theorem dX2_keep_37 : decode cX2_keep 37 = .ok (.dup, 1) := by decide +kernel
theorem dX2_keep_38 : decode cX2_keep 38 = .ok (.invokespecial 24, 3) := by decide +kernel
theorem dX2_keep_41 : decode cX2_keep 41 = .ok (.aastore, 1) := by decide +kernel
theorem dX2_keep_42 : decode cX2_keep 42 = .ok (.aload_n 0, 1) := by decide +kernel
theorem dX2_keep_43 : decode cX2_keep 43 = .ok (.getfield 11, 3) := by decide +kernel
theorem dX2_keep_46 : decode cX2_keep 46 = .ok (.aload_n 0, 1) := by decide +kernel
theorem dX2_keep_47 : decode cX2_keep 47 = .ok (.getfield 21, 3) := by decide +kernel
theorem dX2_keep_50 : decode cX2_keep 50 = .ok (.aaload, 1) := by decide +kernel
theorem dX2_keep_51 : decode cX2_keep 51 = .ok (.aload_n 1, 1) := by decide +kernel
theorem dX2_keep_52 : decode cX2_keep 52 = .ok (.invokevirtual 25, 3) := by decide +kernel
theorem dX2_keep_55 : decode cX2_keep 55 = .ok (.aload_n 0, 1) := by decide +kernel
theorem dX2_keep_56 : decode cX2_keep 56 = .ok (.dup, 1) := by decide +kernel
theorem dX2_keep_57 : decode cX2_keep 57 = .ok (.getfield 21, 3) := by decide +kernel
theorem dX2_keep_60 : decode cX2_keep 60 = .ok (.iconst 1, 1) := by decide +kernel
theorem dX2_keep_61 : decode cX2_keep 61 = .ok (.iadd, 1) := by decide +kernel
theorem dX2_keep_62 : decode cX2_keep 62 = .ok (.putfield 21, 3) := by decide +kernel
theorem dX2_keep_65 : decode cX2_keep 65 = .ok (.aload_n 0, 1) := by decide +kernel
theorem dX2_keep_66 : decode cX2_keep 66 = .ok (.bipush 10, 2) := by decide +kernel
theorem dX2_keep_68 : decode cX2_keep 68 = .ok (.aload_n 0, 1) := by decide +kernel
theorem dX2_keep_69 : decode cX2_keep 69 = .ok (.getfield 17, 3) := by decide +kernel
theorem dX2_keep_72 : decode cX2_keep 72 = .ok (.iconst 1, 1) := by decide +kernel
theorem dX2_keep_73 : decode cX2_keep 73 = .ok (.iadd, 1) := by decide +kernel
theorem dX2_keep_74 : decode cX2_keep 74 = .ok (.invokestatic 29, 3) := by decide +kernel
theorem dX2_keep_77 : decode cX2_keep 77 = .ok (.putfield 17, 3) := by decide +kernel
theorem dX2_keep_80 : decode cX2_keep 80 = .ok (.return_, 1) := by decide +kernel
theorem dX2_takeBack_0 : decode cX2_takeBack 0 = .ok (.aload_n 0, 1) := by decide +kernel
theorem dX2_takeBack_1 : decode cX2_takeBack 1 = .ok (.getfield 21, 3) := by decide +kernel
theorem dX2_takeBack_4 : decode cX2_takeBack 4 = .ok (.ifCond .gt 9, 3) := by decide +kernel
theorem dX2_takeBack_7 : decode cX2_takeBack 7 = .ok (.aload_n 0, 1) := by decide +kernel
theorem dX2_takeBack_8 : decode cX2_takeBack 8 = .ok (.bipush 10, 2) := by decide +kernel
theorem dX2_takeBack_10 : decode cX2_takeBack 10 = .ok (.putfield 21, 3) := by decide +kernel
theorem dX2_takeBack_13 : decode cX2_takeBack 13 = .ok (.aload_n 0, 1) := by decide +kernel
theorem dX2_takeBack_14 : decode cX2_takeBack 14 = .ok (.getfield 11, 3) := by decide +kernel
theorem dX2_takeBack_17 : decode cX2_takeBack 17 = .ok (.aload_n 0, 1) := by decide +kernel
theorem dX2_takeBack_18 : decode cX2_takeBack 18 = .ok (.getfield 21, 3) := by decide +kernel
theorem dX2_takeBack_21 : decode cX2_takeBack 21 = .ok (.iconst 1, 1) := by decide +kernel
theorem dX2_takeBack_22 : decode cX2_takeBack 22 = .ok (.isub, 1) := by decide +kernel
theorem dX2_takeBack_23 : decode cX2_takeBack 23 = .ok (.aaload, 1) := by decide +kernel
theorem dX2_takeBack_24 : decode cX2_takeBack 24 = .ok (.astore_n 2, 1) := by decide +kernel
theorem dX2_takeBack_25 : decode cX2_takeBack 25 = .ok (.aload_n 0, 1) := by decide +kernel
theorem dX2_takeBack_26 : decode cX2_takeBack 26 = .ok (.getfield 17, 3) := by decide +kernel
theorem dX2_takeBack_29 : decode cX2_takeBack 29 = .ok (.ifCond .le 7, 3) := by decide +kernel
theorem dX2_takeBack_32 : decode cX2_takeBack 32 = .ok (.aload_n 2, 1) := by decide +kernel
theorem dX2_takeBack_33 : decode cX2_takeBack 33 = .ok (.ifnonnull 5, 3) := by decide +kernel
theorem dX2_takeBack_36 : decode cX2_takeBack 36 = .ok (.iconst 0, 1) := by decide +kernel
theorem dX2_takeBack_37 : decode cX2_takeBack 37 = .ok (.ireturn, 1) := by decide +kernel
theorem dX2_takeBack_38 : decode cX2_takeBack 38 = .ok (.aload_n 1, 1) := by decide +kernel
theorem dX2_takeBack_39 : decode cX2_takeBack 39 = .ok (.aload_n 2, 1) := by decide +kernel
theorem dX2_takeBack_40 : decode cX2_takeBack 40 = .ok (.invokevirtual 25, 3) := by decide +kernel
theorem dX2_takeBack_43 : decode cX2_takeBack 43 = .ok (.aload_n 0, 1) := by decide +kernel
theorem dX2_takeBack_44 : decode cX2_takeBack 44 = .ok (.dup, 1) := by decide +kernel
theorem dX2_takeBack_45 : decode cX2_takeBack 45 = .ok (.getfield 21, 3) := by decide +kernel
theorem dX2_takeBack_48 : decode cX2_takeBack 48 = .ok (.iconst 1, 1) := by decide +kernel
theorem dX2_takeBack_49 : decode cX2_takeBack 49 = .ok (.isub, 1) := by decide +kernel
theorem dX2_takeBack_50 : decode cX2_takeBack 50 = .ok (.putfield 21, 3) := by decide +kernel
theorem dX2_takeBack_53 : decode cX2_takeBack 53 = .ok (.aload_n 0, 1) := by decide +kernel
theorem dX2_takeBack_54 : decode cX2_takeBack 54 = .ok (.dup, 1) := by decide +kernel
theorem dX2_takeBack_55 : decode cX2_takeBack 55 = .ok (.getfield 17, 3) := by decide +kernel
theorem dX2_takeBack_58 : decode cX2_takeBack 58 = .ok (.iconst 1, 1) := by decide +kernel
theorem dX2_takeBack_59 : decode cX2_takeBack 59 = .ok (.isub, 1) := by decide +kernel
theorem dX2_takeBack_60 : decode cX2_takeBack 60 = .ok (.putfield 17, 3) := by decide +kernel
theorem dX2_takeBack_63 : decode cX2_takeBack 63 = .ok (.iconst 1, 1) := by decide +kernel
theorem dX2_takeBack_64 : decode cX2_takeBack 64 = .ok (.ireturn, 1) := by decide +kernel
theorem dX3_init_0 : decode cX3_init 0 = .ok (.aload_n 0, 1) := by decide +kernel
theorem dX3_init_1 : decode cX3_init 1 = .ok (.invokespecial 3, 3) := by decide +kernel
theorem dX3_init_4 : decode cX3_init 4 = .ok (.aload_n 0, 1) := by decide +kernel
theorem dX3_init_5 : decode cX3_init 5 = .ok (.iconst 1, 1) := by decide +kernel
theorem dX3_init_6 : decode cX3_init 6 = .ok (.putfield 9, 3) := by decide +kernel
theorem dX3_init_9 : decode cX3_init 9 = .ok (.aload_n 0, 1) := by decide +kernel
theorem dX3_init_10 : decode cX3_init 10 = .ok (.iconst 1, 1) := by decide +kernel
theorem dX3_init_11 : decode cX3_init 11 = .ok (.putfield 15, 3) := by decide +kernel
theorem dX3_init_14 : decode cX3_init 14 = .ok (.aload_n 0, 1) := by decide +kernel
theorem dX3_init_15 : decode cX3_init 15 = .ok (.bipush 15, 2) := by decide +kernel
theorem dX3_init_17 : decode cX3_init 17 = .ok (.putfield 18, 3) := by decide +kernel
theorem dX3_init_20 : decode cX3_init 20 = .ok (.aload_n 0, 1) := by decide +kernel
theorem dX3_init_21 : decode cX3_init 21 = .ok (.new 21, 3) := by decide +kernel
theorem dX3_init_24 : decode cX3_init 24 = .ok (.dup, 1) := by decide +kernel
theorem dX3_init_25 : decode cX3_init 25 = .ok (.invokespecial 23, 3) := by decide +kernel
theorem dX3_init_28 : decode cX3_init 28 = .ok (.putfield 24, 3) := by decide +kernel
theorem dX3_init_31 : decode cX3_init 31 = .ok (.aload_n 0, 1) := by decide +kernel
theorem dX3_init_32 : decode cX3_init 32 = .ok (.bipush 30, 2) := by decide +kernel
theorem dX3_init_34 : decode cX3_init 34 = .ok (.newarray .int, 2) := by decide +kernel
theorem dX3_init_36 : decode cX3_init 36 = .ok (.putfield 28, 3) := by decide +kernel
theorem dX3_init_39 : decode cX3_init 39 = .ok (.aload_n 0, 1) := by decide +kernel
theorem dX3_init_40 : decode cX3_init 40 = .ok (.bipush 30, 2) := by decide +kernel
theorem dX3_init_42 : decode cX3_init 42 = .ok (.newarray .int, 2) := by decide +kernel
theorem dX3_init_44 : decode cX3_init 44 = .ok (.putfield 32, 3) := by decide +kernel
theorem dX3_init_47 : decode cX3_init 47 = .ok (.aload_n 0, 1) := by decide +kernel
theorem dX3_init_48 : decode cX3_init 48 = .ok (.bipush 30, 2) := by decide +kernel
theorem dX3_init_50 : decode cX3_init 50 = .ok (.newarray .int, 2) := by decide +kernel
theorem dX3_init_52 : decode cX3_init 52 = .ok (.putfield 35, 3) := by decide +kernel
theorem dX3_init_55 : decode cX3_init 55 = .ok (.aload_n 0, 1) := by decide +kernel
theorem dX3_init_56 : decode cX3_init 56 = .ok (.bipush 30, 2) := by decide +kernel
theorem dX3_init_58 : decode cX3_init 58 = .ok (.newarray .int, 2) := by decide +kernel
theorem dX3_init_60 : decode cX3_init 60 = .ok (.putfield 38, 3) := by decide +kernel
theorem dX3_init_63 : decode cX3_init 63 = .ok (.aload_n 0, 1) := by decide +kernel
theorem dX3_init_64 : decode cX3_init 64 = .ok (.bipush 30, 2) := by decide +kernel
theorem dX3_init_66 : decode cX3_init 66 = .ok (.newarray .int, 2) := by decide +kernel
theorem dX3_init_68 : decode cX3_init 68 = .ok (.putfield 41, 3) := by decide +kernel
theorem dX3_init_71 : decode cX3_init 71 = .ok (.aload_n 0, 1) := by decide +kernel
theorem dX3_init_72 : decode cX3_init 72 = .ok (.sipush 480, 3) := by decide +kernel
theorem dX3_init_75 : decode cX3_init 75 = .ok (.newarray .int, 2) := by decide +kernel
theorem dX3_init_77 : decode cX3_init 77 = .ok (.putfield 44, 3) := by decide +kernel
theorem dX3_init_80 : decode cX3_init 80 = .ok (.aload_n 0, 1) := by decide +kernel
theorem dX3_init_81 : decode cX3_init 81 = .ok (.bipush 30, 2) := by decide +kernel
theorem dX3_init_83 : decode cX3_init 83 = .ok (.newarray .int, 2) := by decide +kernel
theorem dX3_init_85 : decode cX3_init 85 = .ok (.putfield 47, 3) := by decide +kernel
theorem dX3_init_88 : decode cX3_init 88 = .ok (.aload_n 0, 1) := by decide +kernel
theorem dX3_init_89 : decode cX3_init 89 = .ok (.iconst 4, 1) := by decide +kernel
theorem dX3_init_90 : decode cX3_init 90 = .ok (.newarray .int, 2) := by decide +kernel
theorem dX3_init_92 : decode cX3_init 92 = .ok (.putfield 50, 3) := by decide +kernel
theorem dX3_init_95 : decode cX3_init 95 = .ok (.aload_n 0, 1) := by decide +kernel
theorem dX3_init_96 : decode cX3_init 96 = .ok (.bipush 30, 2) := by decide +kernel
theorem dX3_init_98 : decode cX3_init 98 = .ok (.newarray .int, 2) := by decide +kernel
theorem dX3_init_100 : decode cX3_init 100 = .ok (.putfield 53, 3) := by decide +kernel
theorem dX3_init_103 : decode cX3_init 103 = .ok (.return_, 1) := by decide +kernel
theorem dX3_begin_0 : decode cX3_begin 0 = .ok (.aload_n 0, 1) := by decide +kernel
theorem dX3_begin_1 : decode cX3_begin 1 = .ok (.iload_n 1, 1) := by decide +kernel
theorem dX3_begin_2 : decode cX3_begin 2 = .ok (.putfield 9, 3) := by decide +kernel
theorem dX3_begin_5 : decode cX3_begin 5 = .ok (.aload_n 0, 1) := by decide +kernel
theorem dX3_begin_6 : decode cX3_begin 6 = .ok (.iload_n 2, 1) := by decide +kernel
theorem dX3_begin_7 : decode cX3_begin 7 = .ok (.putfield 15, 3) := by decide +kernel
theorem dX3_begin_10 : decode cX3_begin 10 = .ok (.aload_n 0, 1) := by decide +kernel
theorem dX3_begin_11 : decode cX3_begin 11 = .ok (.iload_n 3, 1) := by decide +kernel
theorem dX3_begin_12 : decode cX3_begin 12 = .ok (.putfield 18, 3) := by decide +kernel
theorem dX3_begin_15 : decode cX3_begin 15 = .ok (.aload_n 0, 1) := by decide +kernel
theorem dX3_begin_16 : decode cX3_begin 16 = .ok (.getfield 24, 3) := by decide +kernel
theorem dX3_begin_19 : decode cX3_begin 19 = .ok (.invokevirtual 56, 3) := by decide +kernel
theorem dX3_begin_22 : decode cX3_begin 22 = .ok (.aload_n 0, 1) := by decide +kernel
theorem dX3_begin_23 : decode cX3_begin 23 = .ok (.getfield 28, 3) := by decide +kernel
theorem dX3_begin_26 : decode cX3_begin 26 = .ok (.iconst 0, 1) := by decide +kernel
theorem dX3_begin_27 : decode cX3_begin 27 = .ok (.invokestatic 59, 3) := by decide +kernel
theorem dX3_begin_30 : decode cX3_begin 30 = .ok (.aload_n 0, 1) := by decide +kernel
theorem dX3_begin_31 : decode cX3_begin 31 = .ok (.getfield 41, 3) := by decide +kernel
theorem dX3_begin_34 : decode cX3_begin 34 = .ok (.iconst 0, 1) := by decide +kernel
theorem dX3_begin_35 : decode cX3_begin 35 = .ok (.invokestatic 59, 3) := by decide +kernel
theorem dX3_begin_38 : decode cX3_begin 38 = .ok (.aload_n 0, 1) := by decide +kernel
theorem dX3_begin_39 : decode cX3_begin 39 = .ok (.iconst 0, 1) := by decide +kernel
theorem dX3_begin_40 : decode cX3_begin 40 = .ok (.putfield 65, 3) := by decide +kernel
theorem dX3_begin_43 : decode cX3_begin 43 = .ok (.aload_n 0, 1) := by decide +kernel
theorem dX3_begin_44 : decode cX3_begin 44 = .ok (.getfield 50, 3) := by decide +kernel
theorem dX3_begin_47 : decode cX3_begin 47 = .ok (.iconst 0, 1) := by decide +kernel
theorem dX3_begin_48 : decode cX3_begin 48 = .ok (.invokestatic 59, 3) := by decide +kernel
theorem dX3_begin_51 : decode cX3_begin 51 = .ok (.aload_n 0, 1) := by decide +kernel
theorem dX3_begin_52 : decode cX3_begin 52 = .ok (.iconst 0, 1) := by decide +kernel
theorem dX3_begin_53 : decode cX3_begin 53 = .ok (.putfield 68, 3) := by decide +kernel
theorem dX3_begin_56 : decode cX3_begin 56 = .ok (.return_, 1) := by decide +kernel
theorem dX3_copyFrom_0 : decode cX3_copyFrom 0 = .ok (.aload_n 0, 1) := by decide +kernel
theorem dX3_copyFrom_1 : decode cX3_copyFrom 1 = .ok (.aload_n 1, 1) := by decide +kernel
theorem dX3_copyFrom_2 : decode cX3_copyFrom 2 = .ok (.getfield 9, 3) := by decide +kernel
theorem dX3_copyFrom_5 : decode cX3_copyFrom 5 = .ok (.putfield 9, 3) := by decide +kernel
theorem dX3_copyFrom_8 : decode cX3_copyFrom 8 = .ok (.aload_n 0, 1) := by decide +kernel
theorem dX3_copyFrom_9 : decode cX3_copyFrom 9 = .ok (.aload_n 1, 1) := by decide +kernel
theorem dX3_copyFrom_10 : decode cX3_copyFrom 10 = .ok (.getfield 15, 3) := by decide +kernel
theorem dX3_copyFrom_13 : decode cX3_copyFrom 13 = .ok (.putfield 15, 3) := by decide +kernel
theorem dX3_copyFrom_16 : decode cX3_copyFrom 16 = .ok (.aload_n 0, 1) := by decide +kernel
theorem dX3_copyFrom_17 : decode cX3_copyFrom 17 = .ok (.aload_n 1, 1) := by decide +kernel
theorem dX3_copyFrom_18 : decode cX3_copyFrom 18 = .ok (.getfield 18, 3) := by decide +kernel
theorem dX3_copyFrom_21 : decode cX3_copyFrom 21 = .ok (.putfield 18, 3) := by decide +kernel
theorem dX3_copyFrom_24 : decode cX3_copyFrom 24 = .ok (.aload_n 0, 1) := by decide +kernel
theorem dX3_copyFrom_25 : decode cX3_copyFrom 25 = .ok (.getfield 24, 3) := by decide +kernel
theorem dX3_copyFrom_28 : decode cX3_copyFrom 28 = .ok (.aload_n 1, 1) := by decide +kernel
theorem dX3_copyFrom_29 : decode cX3_copyFrom 29 = .ok (.getfield 24, 3) := by decide +kernel
theorem dX3_copyFrom_32 : decode cX3_copyFrom 32 = .ok (.invokevirtual 71, 3) := by decide +kernel
theorem dX3_copyFrom_35 : decode cX3_copyFrom 35 = .ok (.aload_n 1, 1) := by decide +kernel
theorem dX3_copyFrom_36 : decode cX3_copyFrom 36 = .ok (.getfield 28, 3) := by decide +kernel
theorem dX3_copyFrom_39 : decode cX3_copyFrom 39 = .ok (.iconst 0, 1) := by decide +kernel
theorem dX3_copyFrom_40 : decode cX3_copyFrom 40 = .ok (.aload_n 0, 1) := by decide +kernel
theorem dX3_copyFrom_41 : decode cX3_copyFrom 41 = .ok (.getfield 28, 3) := by decide +kernel
theorem dX3_copyFrom_44 : decode cX3_copyFrom 44 = .ok (.iconst 0, 1) := by decide +kernel
theorem dX3_copyFrom_45 : decode cX3_copyFrom 45 = .ok (.bipush 30, 2) := by decide +kernel
theorem dX3_copyFrom_47 : decode cX3_copyFrom 47 = .ok (.invokestatic 75, 3) := by decide +kernel
theorem dX3_copyFrom_50 : decode cX3_copyFrom 50 = .ok (.aload_n 1, 1) := by decide +kernel
theorem dX3_copyFrom_51 : decode cX3_copyFrom 51 = .ok (.getfield 32, 3) := by decide +kernel
theorem dX3_copyFrom_54 : decode cX3_copyFrom 54 = .ok (.iconst 0, 1) := by decide +kernel
theorem dX3_copyFrom_55 : decode cX3_copyFrom 55 = .ok (.aload_n 0, 1) := by decide +kernel
theorem dX3_copyFrom_56 : decode cX3_copyFrom 56 = .ok (.getfield 32, 3) := by decide +kernel
theorem dX3_copyFrom_59 : decode cX3_copyFrom 59 = .ok (.iconst 0, 1) := by decide +kernel
theorem dX3_copyFrom_60 : decode cX3_copyFrom 60 = .ok (.bipush 30, 2) := by decide +kernel
theorem dX3_copyFrom_62 : decode cX3_copyFrom 62 = .ok (.invokestatic 75, 3) := by decide +kernel
theorem dX3_copyFrom_65 : decode cX3_copyFrom 65 = .ok (.aload_n 1, 1) := by decide +kernel
theorem dX3_copyFrom_66 : decode cX3_copyFrom 66 = .ok (.getfield 35, 3) := by decide +kernel
theorem dX3_copyFrom_69 : decode cX3_copyFrom 69 = .ok (.iconst 0, 1) := by decide +kernel
theorem dX3_copyFrom_70 : decode cX3_copyFrom 70 = .ok (.aload_n 0, 1) := by decide +kernel
theorem dX3_copyFrom_71 : decode cX3_copyFrom 71 = .ok (.getfield 35, 3) := by decide +kernel
theorem dX3_copyFrom_74 : decode cX3_copyFrom 74 = .ok (.iconst 0, 1) := by decide +kernel
theorem dX3_copyFrom_75 : decode cX3_copyFrom 75 = .ok (.bipush 30, 2) := by decide +kernel
theorem dX3_copyFrom_77 : decode cX3_copyFrom 77 = .ok (.invokestatic 75, 3) := by decide +kernel
theorem dX3_copyFrom_80 : decode cX3_copyFrom 80 = .ok (.aload_n 1, 1) := by decide +kernel
theorem dX3_copyFrom_81 : decode cX3_copyFrom 81 = .ok (.getfield 38, 3) := by decide +kernel
theorem dX3_copyFrom_84 : decode cX3_copyFrom 84 = .ok (.iconst 0, 1) := by decide +kernel
theorem dX3_copyFrom_85 : decode cX3_copyFrom 85 = .ok (.aload_n 0, 1) := by decide +kernel
theorem dX3_copyFrom_86 : decode cX3_copyFrom 86 = .ok (.getfield 38, 3) := by decide +kernel
theorem dX3_copyFrom_89 : decode cX3_copyFrom 89 = .ok (.iconst 0, 1) := by decide +kernel
theorem dX3_copyFrom_90 : decode cX3_copyFrom 90 = .ok (.bipush 30, 2) := by decide +kernel
theorem dX3_copyFrom_92 : decode cX3_copyFrom 92 = .ok (.invokestatic 75, 3) := by decide +kernel
theorem dX3_copyFrom_95 : decode cX3_copyFrom 95 = .ok (.aload_n 1, 1) := by decide +kernel
theorem dX3_copyFrom_96 : decode cX3_copyFrom 96 = .ok (.getfield 41, 3) := by decide +kernel
theorem dX3_copyFrom_99 : decode cX3_copyFrom 99 = .ok (.iconst 0, 1) := by decide +kernel
theorem dX3_copyFrom_100 : decode cX3_copyFrom 100 = .ok (.aload_n 0, 1) := by decide +kernel
theorem dX3_copyFrom_101 : decode cX3_copyFrom 101 = .ok (.getfield 41, 3) := by decide +kernel
theorem dX3_copyFrom_104 : decode cX3_copyFrom 104 = .ok (.iconst 0, 1) := by decide +kernel
theorem dX3_copyFrom_105 : decode cX3_copyFrom 105 = .ok (.bipush 30, 2) := by decide +kernel
theorem dX3_copyFrom_107 : decode cX3_copyFrom 107 = .ok (.invokestatic 75, 3) := by decide +kernel
theorem dX3_copyFrom_110 : decode cX3_copyFrom 110 = .ok (.aload_n 1, 1) := by decide +kernel
theorem dX3_copyFrom_111 : decode cX3_copyFrom 111 = .ok (.getfield 44, 3) := by decide +kernel
theorem dX3_copyFrom_114 : decode cX3_copyFrom 114 = .ok (.iconst 0, 1) := by decide +kernel
theorem dX3_copyFrom_115 : decode cX3_copyFrom 115 = .ok (.aload_n 0, 1) := by decide +kernel
theorem dX3_copyFrom_116 : decode cX3_copyFrom 116 = .ok (.getfield 44, 3) := by decide +kernel
theorem dX3_copyFrom_119 : decode cX3_copyFrom 119 = .ok (.iconst 0, 1) := by decide +kernel
theorem dX3_copyFrom_120 : decode cX3_copyFrom 120 = .ok (.sipush 480, 3) := by decide +kernel
theorem dX3_copyFrom_123 : decode cX3_copyFrom 123 = .ok (.invokestatic 75, 3) := by decide +kernel
theorem dX3_copyFrom_126 : decode cX3_copyFrom 126 = .ok (.aload_n 1, 1) := by decide +kernel
theorem dX3_copyFrom_127 : decode cX3_copyFrom 127 = .ok (.getfield 47, 3) := by decide +kernel
theorem dX3_copyFrom_130 : decode cX3_copyFrom 130 = .ok (.iconst 0, 1) := by decide +kernel
theorem dX3_copyFrom_131 : decode cX3_copyFrom 131 = .ok (.aload_n 0, 1) := by decide +kernel
theorem dX3_copyFrom_132 : decode cX3_copyFrom 132 = .ok (.getfield 47, 3) := by decide +kernel
theorem dX3_copyFrom_135 : decode cX3_copyFrom 135 = .ok (.iconst 0, 1) := by decide +kernel
theorem dX3_copyFrom_136 : decode cX3_copyFrom 136 = .ok (.bipush 30, 2) := by decide +kernel
theorem dX3_copyFrom_138 : decode cX3_copyFrom 138 = .ok (.invokestatic 75, 3) := by decide +kernel
theorem dX3_copyFrom_141 : decode cX3_copyFrom 141 = .ok (.aload_n 0, 1) := by decide +kernel
theorem dX3_copyFrom_142 : decode cX3_copyFrom 142 = .ok (.aload_n 1, 1) := by decide +kernel
theorem dX3_copyFrom_143 : decode cX3_copyFrom 143 = .ok (.getfield 65, 3) := by decide +kernel
theorem dX3_copyFrom_146 : decode cX3_copyFrom 146 = .ok (.putfield 65, 3) := by decide +kernel
theorem dX3_copyFrom_149 : decode cX3_copyFrom 149 = .ok (.aload_n 1, 1) := by decide +kernel
theorem dX3_copyFrom_150 : decode cX3_copyFrom 150 = .ok (.getfield 50, 3) := by decide +kernel
theorem dX3_copyFrom_153 : decode cX3_copyFrom 153 = .ok (.iconst 0, 1) := by decide +kernel
theorem dX3_copyFrom_154 : decode cX3_copyFrom 154 = .ok (.aload_n 0, 1) := by decide +kernel
theorem dX3_copyFrom_155 : decode cX3_copyFrom 155 = .ok (.getfield 50, 3) := by decide +kernel
theorem dX3_copyFrom_158 : decode cX3_copyFrom 158 = .ok (.iconst 0, 1) := by decide +kernel
theorem dX3_copyFrom_159 : decode cX3_copyFrom 159 = .ok (.iconst 4, 1) := by decide +kernel
theorem dX3_copyFrom_160 : decode cX3_copyFrom 160 = .ok (.invokestatic 75, 3) := by decide +kernel
theorem dX3_copyFrom_163 : decode cX3_copyFrom 163 = .ok (.aload_n 0, 1) := by decide +kernel
theorem dX3_copyFrom_164 : decode cX3_copyFrom 164 = .ok (.iconst 0, 1) := by decide +kernel
theorem dX3_copyFrom_165 : decode cX3_copyFrom 165 = .ok (.putfield 68, 3) := by decide +kernel
theorem dX3_copyFrom_168 : decode cX3_copyFrom 168 = .ok (.return_, 1) := by decide +kernel
theorem dX3_countAt_0 : decode cX3_countAt 0 = .ok (.iconst 0, 1) := by decide +kernel
theorem dX3_countAt_1 : decode cX3_countAt 1 = .ok (.istore_n 2, 1) := by decide +kernel
theorem dX3_countAt_2 : decode cX3_countAt 2 = .ok (.iconst 0, 1) := by decide +kernel
theorem dX3_countAt_3 : decode cX3_countAt 3 = .ok (.istore_n 3, 1) := by decide +kernel
theorem dX3_countAt_4 : decode cX3_countAt 4 = .ok (.iload_n 3, 1) := by decide +kernel
theorem dX3_countAt_5 : decode cX3_countAt 5 = .ok (.bipush 30, 2) := by decide +kernel
theorem dX3_countAt_7 : decode cX3_countAt 7 = .ok (.if_icmp .ge 27, 3) := by decide +kernel
theorem dX3_countAt_10 : decode cX3_countAt 10 = .ok (.iload_n 2, 1) := by decide +kernel
theorem dX3_countAt_11 : decode cX3_countAt 11 = .ok (.aload_n 0, 1) := by decide +kernel
theorem dX3_countAt_12 : decode cX3_countAt 12 = .ok (.getfield 28, 3) := by decide +kernel
theorem dX3_countAt_15 : decode cX3_countAt 15 = .ok (.iload_n 3, 1) := by decide +kernel
theorem dX3_countAt_16 : decode cX3_countAt 16 = .ok (.iaload, 1) := by decide +kernel
theorem dX3_countAt_17 : decode cX3_countAt 17 = .ok (.iload_n 1, 1) := by decide +kernel
theorem dX3_countAt_18 : decode cX3_countAt 18 = .ok (.if_icmp .ne 7, 3) := by decide +kernel
theorem dX3_countAt_21 : decode cX3_countAt 21 = .ok (.iconst 1, 1) := by decide +kernel
theorem dX3_countAt_22 : decode cX3_countAt 22 = .ok (.goto 4, 3) := by decide +kernel
theorem dX3_countAt_25 : decode cX3_countAt 25 = .ok (.iconst 0, 1) := by decide +kernel
theorem dX3_countAt_26 : decode cX3_countAt 26 = .ok (.iadd, 1) := by decide +kernel
theorem dX3_countAt_27 : decode cX3_countAt 27 = .ok (.istore_n 2, 1) := by decide +kernel
theorem dX3_countAt_28 : decode cX3_countAt 28 = .ok (.iinc 3 1, 3) := by decide +kernel
theorem dX3_countAt_31 : decode cX3_countAt 31 = .ok (.goto (-27), 3) := by decide +kernel
theorem dX3_countAt_34 : decode cX3_countAt 34 = .ok (.iload_n 2, 1) := by decide +kernel
theorem dX3_countAt_35 : decode cX3_countAt 35 = .ok (.ireturn, 1) := by decide +kernel
theorem dX3_unitsTaken_0 : decode cX3_unitsTaken 0 = .ok (.iconst 0, 1) := by decide +kernel
theorem dX3_unitsTaken_1 : decode cX3_unitsTaken 1 = .ok (.istore_n 1, 1) := by decide +kernel
theorem dX3_unitsTaken_2 : decode cX3_unitsTaken 2 = .ok (.iconst 0, 1) := by decide +kernel
theorem dX3_unitsTaken_3 : decode cX3_unitsTaken 3 = .ok (.istore_n 2, 1) := by decide +kernel
theorem dX3_unitsTaken_4 : decode cX3_unitsTaken 4 = .ok (.iload_n 2, 1) := by decide +kernel
theorem dX3_unitsTaken_5 : decode cX3_unitsTaken 5 = .ok (.bipush 30, 2) := by decide +kernel
theorem dX3_unitsTaken_7 : decode cX3_unitsTaken 7 = .ok (.if_icmp .ge 32, 3) := by decide +kernel
theorem dX3_unitsTaken_10 : decode cX3_unitsTaken 10 = .ok (.iload_n 1, 1) := by decide +kernel
theorem dX3_unitsTaken_11 : decode cX3_unitsTaken 11 = .ok (.aload_n 0, 1) := by decide +kernel
theorem dX3_unitsTaken_12 : decode cX3_unitsTaken 12 = .ok (.getfield 28, 3) := by decide +kernel
theorem dX3_unitsTaken_15 : decode cX3_unitsTaken 15 = .ok (.iload_n 2, 1) := by decide +kernel
theorem dX3_unitsTaken_16 : decode cX3_unitsTaken 16 = .ok (.iaload, 1) := by decide +kernel
theorem dX3_unitsTaken_17 : decode cX3_unitsTaken 17 = .ok (.iconst 2, 1) := by decide +kernel
theorem dX3_unitsTaken_18 : decode cX3_unitsTaken 18 = .ok (.if_icmp .ne 12, 3) := by decide +kernel
theorem dX3_unitsTaken_21 : decode cX3_unitsTaken 21 = .ok (.aload_n 0, 1) := by decide +kernel
theorem dX3_unitsTaken_22 : decode cX3_unitsTaken 22 = .ok (.getfield 32, 3) := by decide +kernel
theorem dX3_unitsTaken_25 : decode cX3_unitsTaken 25 = .ok (.iload_n 2, 1) := by decide +kernel
theorem dX3_unitsTaken_26 : decode cX3_unitsTaken 26 = .ok (.iaload, 1) := by decide +kernel
theorem dX3_unitsTaken_27 : decode cX3_unitsTaken 27 = .ok (.goto 4, 3) := by decide +kernel
theorem dX3_unitsTaken_30 : decode cX3_unitsTaken 30 = .ok (.iconst 0, 1) := by decide +kernel
theorem dX3_unitsTaken_31 : decode cX3_unitsTaken 31 = .ok (.iadd, 1) := by decide +kernel
theorem dX3_unitsTaken_32 : decode cX3_unitsTaken 32 = .ok (.istore_n 1, 1) := by decide +kernel
theorem dX3_unitsTaken_33 : decode cX3_unitsTaken 33 = .ok (.iinc 2 1, 3) := by decide +kernel
theorem dX3_unitsTaken_36 : decode cX3_unitsTaken 36 = .ok (.goto (-32), 3) := by decide +kernel
theorem dX3_unitsTaken_39 : decode cX3_unitsTaken 39 = .ok (.iload_n 1, 1) := by decide +kernel
theorem dX3_unitsTaken_40 : decode cX3_unitsTaken 40 = .ok (.ireturn, 1) := by decide +kernel
theorem dX3_likeCells_0 : decode cX3_likeCells 0 = .ok (.iload_n 1, 1) := by decide +kernel
theorem dX3_likeCells_1 : decode cX3_likeCells 1 = .ok (.invokestatic 81, 3) := by decide +kernel
theorem dX3_likeCells_4 : decode cX3_likeCells 4 = .ok (.ifCond .eq 10, 3) := by decide +kernel
theorem dX3_likeCells_7 : decode cX3_likeCells 7 = .ok (.iload_n 2, 1) := by decide +kernel
theorem dX3_likeCells_8 : decode cX3_likeCells 8 = .ok (.invokestatic 81, 3) := by decide +kernel
theorem dX3_likeCells_11 : decode cX3_likeCells 11 = .ok (.ifCond .ne 5, 3) := by decide +kernel
theorem dX3_likeCells_14 : decode cX3_likeCells 14 = .ok (.iconst 0, 1) := by decide +kernel
theorem dX3_likeCells_15 : decode cX3_likeCells 15 = .ok (.ireturn, 1) := by decide +kernel
theorem dX3_likeCells_16 : decode cX3_likeCells 16 = .ok (.iconst 0, 1) := by decide +kernel
theorem dX3_likeCells_17 : decode cX3_likeCells 17 = .ok (.istore_n 3, 1) := by decide +kernel
theorem dX3_likeCells_18 : decode cX3_likeCells 18 = .ok (.iload_n 3, 1) := by decide +kernel
theorem dX3_likeCells_19 : decode cX3_likeCells 19 = .ok (.bipush 16, 2) := by decide +kernel
theorem dX3_likeCells_21 : decode cX3_likeCells 21 = .ok (.if_icmp .ge 36, 3) := by decide +kernel
theorem dX3_likeCells_24 : decode cX3_likeCells 24 = .ok (.aload_n 0, 1) := by decide +kernel
theorem dX3_likeCells_25 : decode cX3_likeCells 25 = .ok (.getfield 44, 3) := by decide +kernel
theorem dX3_likeCells_28 : decode cX3_likeCells 28 = .ok (.iload_n 1, 1) := by decide +kernel
theorem dX3_likeCells_29 : decode cX3_likeCells 29 = .ok (.bipush 16, 2) := by decide +kernel
theorem dX3_likeCells_31 : decode cX3_likeCells 31 = .ok (.imul, 1) := by decide +kernel
theorem dX3_likeCells_32 : decode cX3_likeCells 32 = .ok (.iload_n 3, 1) := by decide +kernel
theorem dX3_likeCells_33 : decode cX3_likeCells 33 = .ok (.iadd, 1) := by decide +kernel
theorem dX3_likeCells_34 : decode cX3_likeCells 34 = .ok (.iaload, 1) := by decide +kernel
theorem dX3_likeCells_35 : decode cX3_likeCells 35 = .ok (.aload_n 0, 1) := by decide +kernel
theorem dX3_likeCells_36 : decode cX3_likeCells 36 = .ok (.getfield 44, 3) := by decide +kernel
theorem dX3_likeCells_39 : decode cX3_likeCells 39 = .ok (.iload_n 2, 1) := by decide +kernel
theorem dX3_likeCells_40 : decode cX3_likeCells 40 = .ok (.bipush 16, 2) := by decide +kernel
theorem dX3_likeCells_42 : decode cX3_likeCells 42 = .ok (.imul, 1) := by decide +kernel
theorem dX3_likeCells_43 : decode cX3_likeCells 43 = .ok (.iload_n 3, 1) := by decide +kernel
theorem dX3_likeCells_44 : decode cX3_likeCells 44 = .ok (.iadd, 1) := by decide +kernel
theorem dX3_likeCells_45 : decode cX3_likeCells 45 = .ok (.iaload, 1) := by decide +kernel
theorem dX3_likeCells_46 : decode cX3_likeCells 46 = .ok (.if_icmp .eq 5, 3) := by decide +kernel
theorem dX3_likeCells_49 : decode cX3_likeCells 49 = .ok (.iconst 0, 1) := by decide +kernel
theorem dX3_likeCells_50 : decode cX3_likeCells 50 = .ok (.ireturn, 1) := by decide +kernel
theorem dX3_likeCells_51 : decode cX3_likeCells 51 = .ok (.iinc 3 1, 3) := by decide +kernel
theorem dX3_likeCells_54 : decode cX3_likeCells 54 = .ok (.goto (-36), 3) := by decide +kernel
theorem dX3_likeCells_57 : decode cX3_likeCells 57 = .ok (.iconst 1, 1) := by decide +kernel
theorem dX3_likeCells_58 : decode cX3_likeCells 58 = .ok (.ireturn, 1) := by decide +kernel
theorem dX3_ageOf_0 : decode cX3_ageOf 0 = .ok (.iconst 0, 1) := by decide +kernel
theorem dX3_ageOf_1 : decode cX3_ageOf 1 = .ok (.istore_n 2, 1) := by decide +kernel
theorem dX3_ageOf_2 : decode cX3_ageOf 2 = .ok (.iload_n 2, 1) := by decide +kernel
theorem dX3_ageOf_3 : decode cX3_ageOf 3 = .ok (.aload_n 0, 1) := by decide +kernel
theorem dX3_ageOf_4 : decode cX3_ageOf 4 = .ok (.getfield 65, 3) := by decide +kernel
theorem dX3_ageOf_7 : decode cX3_ageOf 7 = .ok (.if_icmp .ge 27, 3) := by decide +kernel
theorem dX3_ageOf_10 : decode cX3_ageOf 10 = .ok (.iload_n 2, 1) := by decide +kernel
theorem dX3_ageOf_11 : decode cX3_ageOf 11 = .ok (.bipush 30, 2) := by decide +kernel
theorem dX3_ageOf_13 : decode cX3_ageOf 13 = .ok (.if_icmp .ge 21, 3) := by decide +kernel
theorem dX3_ageOf_16 : decode cX3_ageOf 16 = .ok (.aload_n 0, 1) := by decide +kernel
theorem dX3_ageOf_17 : decode cX3_ageOf 17 = .ok (.getfield 47, 3) := by decide +kernel
theorem dX3_ageOf_20 : decode cX3_ageOf 20 = .ok (.iload_n 2, 1) := by decide +kernel
theorem dX3_ageOf_21 : decode cX3_ageOf 21 = .ok (.iaload, 1) := by decide +kernel
theorem dX3_ageOf_22 : decode cX3_ageOf 22 = .ok (.iload_n 1, 1) := by decide +kernel
theorem dX3_ageOf_23 : decode cX3_ageOf 23 = .ok (.if_icmp .ne 5, 3) := by decide +kernel
theorem dX3_ageOf_26 : decode cX3_ageOf 26 = .ok (.iload_n 2, 1) := by decide +kernel
theorem dX3_ageOf_27 : decode cX3_ageOf 27 = .ok (.ireturn, 1) := by decide +kernel
theorem dX3_ageOf_28 : decode cX3_ageOf 28 = .ok (.iinc 2 1, 3) := by decide +kernel
theorem dX3_ageOf_31 : decode cX3_ageOf 31 = .ok (.goto (-29), 3) := by decide +kernel
theorem dX3_ageOf_34 : decode cX3_ageOf 34 = .ok (.iconst (-1), 1) := by decide +kernel
theorem dX3_ageOf_35 : decode cX3_ageOf 35 = .ok (.ireturn, 1) := by decide +kernel
theorem dX3_coldestOf_0 : decode cX3_coldestOf 0 = .ok (.iconst 0, 1) := by decide +kernel
theorem dX3_coldestOf_1 : decode cX3_coldestOf 1 = .ok (.istore_n 2, 1) := by decide +kernel
theorem dX3_coldestOf_2 : decode cX3_coldestOf 2 = .ok (.iload_n 2, 1) := by decide +kernel
theorem dX3_coldestOf_3 : decode cX3_coldestOf 3 = .ok (.aload_n 0, 1) := by decide +kernel
theorem dX3_coldestOf_4 : decode cX3_coldestOf 4 = .ok (.getfield 65, 3) := by decide +kernel
theorem dX3_coldestOf_7 : decode cX3_coldestOf 7 = .ok (.if_icmp .ge 43, 3) := by decide +kernel
theorem dX3_coldestOf_10 : decode cX3_coldestOf 10 = .ok (.iload_n 2, 1) := by decide +kernel
theorem dX3_coldestOf_11 : decode cX3_coldestOf 11 = .ok (.bipush 30, 2) := by decide +kernel
theorem dX3_coldestOf_13 : decode cX3_coldestOf 13 = .ok (.if_icmp .ge 37, 3) := by decide +kernel
theorem dX3_coldestOf_16 : decode cX3_coldestOf 16 = .ok (.aload_n 0, 1) := by decide +kernel
theorem dX3_coldestOf_17 : decode cX3_coldestOf 17 = .ok (.aload_n 0, 1) := by decide +kernel
theorem dX3_coldestOf_18 : decode cX3_coldestOf 18 = .ok (.getfield 47, 3) := by decide +kernel
theorem dX3_coldestOf_21 : decode cX3_coldestOf 21 = .ok (.iload_n 2, 1) := by decide +kernel
theorem dX3_coldestOf_22 : decode cX3_coldestOf 22 = .ok (.iaload, 1) := by decide +kernel
theorem dX3_coldestOf_23 : decode cX3_coldestOf 23 = .ok (.invokevirtual 85, 3) := by decide +kernel
theorem dX3_coldestOf_26 : decode cX3_coldestOf 26 = .ok (.aload_n 0, 1) := by decide +kernel
theorem dX3_coldestOf_27 : decode cX3_coldestOf 27 = .ok (.getfield 15, 3) := by decide +kernel
theorem dX3_coldestOf_30 : decode cX3_coldestOf 30 = .ok (.invokestatic 89, 3) := by decide +kernel
theorem dX3_coldestOf_33 : decode cX3_coldestOf 33 = .ok (.iload_n 1, 1) := by decide +kernel
theorem dX3_coldestOf_34 : decode cX3_coldestOf 34 = .ok (.if_icmp .ne 10, 3) := by decide +kernel
theorem dX3_coldestOf_37 : decode cX3_coldestOf 37 = .ok (.aload_n 0, 1) := by decide +kernel
theorem dX3_coldestOf_38 : decode cX3_coldestOf 38 = .ok (.getfield 47, 3) := by decide +kernel
theorem dX3_coldestOf_41 : decode cX3_coldestOf 41 = .ok (.iload_n 2, 1) := by decide +kernel
theorem dX3_coldestOf_42 : decode cX3_coldestOf 42 = .ok (.iaload, 1) := by decide +kernel
theorem dX3_coldestOf_43 : decode cX3_coldestOf 43 = .ok (.ireturn, 1) := by decide +kernel
theorem dX3_coldestOf_44 : decode cX3_coldestOf 44 = .ok (.iinc 2 1, 3) := by decide +kernel
theorem dX3_coldestOf_47 : decode cX3_coldestOf 47 = .ok (.goto (-45), 3) := by decide +kernel
theorem dX3_coldestOf_50 : decode cX3_coldestOf 50 = .ok (.bipush (-2), 2) := by decide +kernel
theorem dX3_coldestOf_52 : decode cX3_coldestOf 52 = .ok (.ireturn, 1) := by decide +kernel
theorem dX3_coldestLoose_0 : decode cX3_coldestLoose 0 = .ok (.iconst 0, 1) := by decide +kernel
theorem dX3_coldestLoose_1 : decode cX3_coldestLoose 1 = .ok (.istore_n 1, 1) := by decide +kernel
theorem dX3_coldestLoose_2 : decode cX3_coldestLoose 2 = .ok (.iload_n 1, 1) := by decide +kernel
theorem dX3_coldestLoose_3 : decode cX3_coldestLoose 3 = .ok (.aload_n 0, 1) := by decide +kernel
theorem dX3_coldestLoose_4 : decode cX3_coldestLoose 4 = .ok (.getfield 65, 3) := by decide +kernel
theorem dX3_coldestLoose_7 : decode cX3_coldestLoose 7 = .ok (.if_icmp .ge 40, 3) := by decide +kernel
theorem dX3_coldestLoose_10 : decode cX3_coldestLoose 10 = .ok (.iload_n 1, 1) := by decide +kernel
theorem dX3_coldestLoose_11 : decode cX3_coldestLoose 11 = .ok (.bipush 30, 2) := by decide +kernel
theorem dX3_coldestLoose_13 : decode cX3_coldestLoose 13 = .ok (.if_icmp .ge 34, 3) := by decide +kernel
theorem dX3_coldestLoose_16 : decode cX3_coldestLoose 16 = .ok (.aload_n 0, 1) := by decide +kernel
theorem dX3_coldestLoose_17 : decode cX3_coldestLoose 17 = .ok (.getfield 47, 3) := by decide +kernel
theorem dX3_coldestLoose_20 : decode cX3_coldestLoose 20 = .ok (.iload_n 1, 1) := by decide +kernel
theorem dX3_coldestLoose_21 : decode cX3_coldestLoose 21 = .ok (.iaload, 1) := by decide +kernel
theorem dX3_coldestLoose_22 : decode cX3_coldestLoose 22 = .ok (.istore_n 2, 1) := by decide +kernel
theorem dX3_coldestLoose_23 : decode cX3_coldestLoose 23 = .ok (.iload_n 2, 1) := by decide +kernel
theorem dX3_coldestLoose_24 : decode cX3_coldestLoose 24 = .ok (.invokestatic 81, 3) := by decide +kernel
theorem dX3_coldestLoose_27 : decode cX3_coldestLoose 27 = .ok (.ifCond .eq 14, 3) := by decide +kernel
theorem dX3_coldestLoose_30 : decode cX3_coldestLoose 30 = .ok (.aload_n 0, 1) := by decide +kernel
theorem dX3_coldestLoose_31 : decode cX3_coldestLoose 31 = .ok (.getfield 41, 3) := by decide +kernel
theorem dX3_coldestLoose_34 : decode cX3_coldestLoose 34 = .ok (.iload_n 2, 1) := by decide +kernel
theorem dX3_coldestLoose_35 : decode cX3_coldestLoose 35 = .ok (.iaload, 1) := by decide +kernel
theorem dX3_coldestLoose_36 : decode cX3_coldestLoose 36 = .ok (.ifCond .ne 5, 3) := by decide +kernel
theorem dX3_coldestLoose_39 : decode cX3_coldestLoose 39 = .ok (.iload_n 2, 1) := by decide +kernel
theorem dX3_coldestLoose_40 : decode cX3_coldestLoose 40 = .ok (.ireturn, 1) := by decide +kernel
theorem dX3_coldestLoose_41 : decode cX3_coldestLoose 41 = .ok (.iinc 1 1, 3) := by decide +kernel
theorem dX3_coldestLoose_44 : decode cX3_coldestLoose 44 = .ok (.goto (-42), 3) := by decide +kernel
theorem dX3_coldestLoose_47 : decode cX3_coldestLoose 47 = .ok (.iconst (-1), 1) := by decide +kernel
theorem dX3_coldestLoose_48 : decode cX3_coldestLoose 48 = .ok (.ireturn, 1) := by decide +kernel
theorem dX3_zoneFor_0 : decode cX3_zoneFor 0 = .ok (.aload_n 0, 1) := by decide +kernel
theorem dX3_zoneFor_1 : decode cX3_zoneFor 1 = .ok (.getfield 24, 3) := by decide +kernel
theorem dX3_zoneFor_4 : decode cX3_zoneFor 4 = .ok (.iload_n 1, 1) := by decide +kernel
theorem dX3_zoneFor_5 : decode cX3_zoneFor 5 = .ok (.iconst (-1), 1) := by decide +kernel
theorem dX3_zoneFor_6 : decode cX3_zoneFor 6 = .ok (.invokevirtual 95, 3) := by decide +kernel
theorem dX3_zoneFor_9 : decode cX3_zoneFor 9 = .ok (.istore_n 2, 1) := by decide +kernel
theorem dX3_zoneFor_10 : decode cX3_zoneFor 10 = .ok (.iload_n 2, 1) := by decide +kernel
theorem dX3_zoneFor_11 : decode cX3_zoneFor 11 = .ok (.ifCond .lt 5, 3) := by decide +kernel
theorem dX3_zoneFor_14 : decode cX3_zoneFor 14 = .ok (.iload_n 2, 1) := by decide +kernel
theorem dX3_zoneFor_15 : decode cX3_zoneFor 15 = .ok (.ireturn, 1) := by decide +kernel
theorem dX3_zoneFor_16 : decode cX3_zoneFor 16 = .ok (.aload_n 0, 1) := by decide +kernel
theorem dX3_zoneFor_17 : decode cX3_zoneFor 17 = .ok (.getfield 24, 3) := by decide +kernel
theorem dX3_zoneFor_20 : decode cX3_zoneFor 20 = .ok (.invokevirtual 98, 3) := by decide +kernel
theorem dX3_zoneFor_23 : decode cX3_zoneFor 23 = .ok (.istore_n 2, 1) := by decide +kernel
theorem dX3_zoneFor_24 : decode cX3_zoneFor 24 = .ok (.iload_n 2, 1) := by decide +kernel
theorem dX3_zoneFor_25 : decode cX3_zoneFor 25 = .ok (.ifCond .lt 26, 3) := by decide +kernel
theorem dX3_zoneFor_28 : decode cX3_zoneFor 28 = .ok (.aload_n 0, 1) := by decide +kernel
theorem dX3_zoneFor_29 : decode cX3_zoneFor 29 = .ok (.getfield 24, 3) := by decide +kernel
theorem dX3_zoneFor_32 : decode cX3_zoneFor 32 = .ok (.getfield 102, 3) := by decide +kernel
theorem dX3_zoneFor_35 : decode cX3_zoneFor 35 = .ok (.iload_n 1, 1) := by decide +kernel
theorem dX3_zoneFor_36 : decode cX3_zoneFor 36 = .ok (.invokestatic 105, 3) := by decide +kernel
theorem dX3_zoneFor_39 : decode cX3_zoneFor 39 = .ok (.iadd, 1) := by decide +kernel
theorem dX3_zoneFor_40 : decode cX3_zoneFor 40 = .ok (.aload_n 0, 1) := by decide +kernel
theorem dX3_zoneFor_41 : decode cX3_zoneFor 41 = .ok (.getfield 9, 3) := by decide +kernel
theorem dX3_zoneFor_44 : decode cX3_zoneFor 44 = .ok (.if_icmp .gt 7, 3) := by decide +kernel
theorem dX3_zoneFor_47 : decode cX3_zoneFor 47 = .ok (.iload_n 2, 1) := by decide +kernel
theorem dX3_zoneFor_48 : decode cX3_zoneFor 48 = .ok (.goto 5, 3) := by decide +kernel
theorem dX3_zoneFor_51 : decode cX3_zoneFor 51 = .ok (.bipush (-2), 2) := by decide +kernel
theorem dX3_zoneFor_53 : decode cX3_zoneFor 53 = .ok (.ireturn, 1) := by decide +kernel
theorem dX3_framesBy_0 : decode cX3_framesBy 0 = .ok (.iconst 0, 1) := by decide +kernel
theorem dX3_framesBy_1 : decode cX3_framesBy 1 = .ok (.istore_n 2, 1) := by decide +kernel
theorem dX3_framesBy_2 : decode cX3_framesBy 2 = .ok (.iconst 1, 1) := by decide +kernel
theorem dX3_framesBy_3 : decode cX3_framesBy 3 = .ok (.istore_n 3, 1) := by decide +kernel
theorem dX3_framesBy_4 : decode cX3_framesBy 4 = .ok (.iload_n 3, 1) := by decide +kernel
theorem dX3_framesBy_5 : decode cX3_framesBy 5 = .ok (.bipush 16, 2) := by decide +kernel
theorem dX3_framesBy_7 : decode cX3_framesBy 7 = .ok (.if_icmp .gt 42, 3) := by decide +kernel
theorem dX3_framesBy_10 : decode cX3_framesBy 10 = .ok (.iload_n 3, 1) := by decide +kernel
theorem dX3_framesBy_11 : decode cX3_framesBy 11 = .ok (.invokestatic 108, 3) := by decide +kernel
theorem dX3_framesBy_14 : decode cX3_framesBy 14 = .ok (.istore 4, 2) := by decide +kernel
theorem dX3_framesBy_16 : decode cX3_framesBy 16 = .ok (.iload 4, 2) := by decide +kernel
theorem dX3_framesBy_18 : decode cX3_framesBy 18 = .ok (.ifCond .le 25, 3) := by decide +kernel
theorem dX3_framesBy_21 : decode cX3_framesBy 21 = .ok (.iload_n 2, 1) := by decide +kernel
theorem dX3_framesBy_22 : decode cX3_framesBy 22 = .ok (.aload_n 0, 1) := by decide +kernel
theorem dX3_framesBy_23 : decode cX3_framesBy 23 = .ok (.iload_n 3, 1) := by decide +kernel
theorem dX3_framesBy_24 : decode cX3_framesBy 24 = .ok (.iload_n 1, 1) := by decide +kernel
theorem dX3_framesBy_25 : decode cX3_framesBy 25 = .ok (.invokevirtual 111, 3) := by decide +kernel
theorem dX3_framesBy_28 : decode cX3_framesBy 28 = .ok (.iload 4, 2) := by decide +kernel
theorem dX3_framesBy_30 : decode cX3_framesBy 30 = .ok (.iadd, 1) := by decide +kernel
theorem dX3_framesBy_31 : decode cX3_framesBy 31 = .ok (.iconst 1, 1) := by decide +kernel
theorem dX3_framesBy_32 : decode cX3_framesBy 32 = .ok (.isub, 1) := by decide +kernel
theorem dX3_framesBy_33 : decode cX3_framesBy 33 = .ok (.iload 4, 2) := by decide +kernel
theorem dX3_framesBy_35 : decode cX3_framesBy 35 = .ok (.idiv, 1) := by decide +kernel
theorem dX3_framesBy_36 : decode cX3_framesBy 36 = .ok (.iload_n 3, 1) := by decide +kernel
theorem dX3_framesBy_37 : decode cX3_framesBy 37 = .ok (.invokestatic 105, 3) := by decide +kernel
theorem dX3_framesBy_40 : decode cX3_framesBy 40 = .ok (.imul, 1) := by decide +kernel
theorem dX3_framesBy_41 : decode cX3_framesBy 41 = .ok (.iadd, 1) := by decide +kernel
theorem dX3_framesBy_42 : decode cX3_framesBy 42 = .ok (.istore_n 2, 1) := by decide +kernel
theorem dX3_framesBy_43 : decode cX3_framesBy 43 = .ok (.iinc 3 1, 3) := by decide +kernel
theorem dX3_framesBy_46 : decode cX3_framesBy 46 = .ok (.goto (-42), 3) := by decide +kernel
theorem dX3_framesBy_49 : decode cX3_framesBy 49 = .ok (.iload_n 2, 1) := by decide +kernel
theorem dX3_framesBy_50 : decode cX3_framesBy 50 = .ok (.ireturn, 1) := by decide +kernel
theorem dX3_storePage_0 : decode cX3_storePage 0 = .ok (.iload_n 1, 1) := by decide +kernel
theorem dX3_storePage_1 : decode cX3_storePage 1 = .ok (.invokestatic 81, 3) := by decide +kernel
theorem dX3_storePage_4 : decode cX3_storePage 4 = .ok (.ifCond .eq 16, 3) := by decide +kernel
theorem dX3_storePage_7 : decode cX3_storePage 7 = .ok (.iload_n 3, 1) := by decide +kernel
theorem dX3_storePage_8 : decode cX3_storePage 8 = .ok (.ifCond .lt 12, 3) := by decide +kernel
theorem dX3_storePage_11 : decode cX3_storePage 11 = .ok (.iload_n 3, 1) := by decide +kernel
theorem dX3_storePage_12 : decode cX3_storePage 12 = .ok (.aload_n 2, 1) := by decide +kernel
theorem dX3_storePage_13 : decode cX3_storePage 13 = .ok (.arraylength, 1) := by decide +kernel
theorem dX3_storePage_14 : decode cX3_storePage 14 = .ok (.bipush 16, 2) := by decide +kernel
theorem dX3_storePage_16 : decode cX3_storePage 16 = .ok (.isub, 1) := by decide +kernel
theorem dX3_storePage_17 : decode cX3_storePage 17 = .ok (.if_icmp .le 4, 3) := by decide +kernel
theorem dX3_storePage_20 : decode cX3_storePage 20 = .ok (.return_, 1) := by decide +kernel
theorem dX3_storePage_21 : decode cX3_storePage 21 = .ok (.aload_n 0, 1) := by decide +kernel
theorem dX3_storePage_22 : decode cX3_storePage 22 = .ok (.iconst 0, 1) := by decide +kernel
theorem dX3_storePage_23 : decode cX3_storePage 23 = .ok (.putfield 68, 3) := by decide +kernel
theorem dX3_storePage_26 : decode cX3_storePage 26 = .ok (.aload_n 0, 1) := by decide +kernel
theorem dX3_storePage_27 : decode cX3_storePage 27 = .ok (.iload_n 1, 1) := by decide +kernel
theorem dX3_storePage_28 : decode cX3_storePage 28 = .ok (.invokevirtual 114, 3) := by decide +kernel
theorem dX3_storePage_31 : decode cX3_storePage 31 = .ok (.aload_n 2, 1) := by decide +kernel
theorem dX3_storePage_32 : decode cX3_storePage 32 = .ok (.iload_n 3, 1) := by decide +kernel
theorem dX3_storePage_33 : decode cX3_storePage 33 = .ok (.aload_n 0, 1) := by decide +kernel
theorem dX3_storePage_34 : decode cX3_storePage 34 = .ok (.getfield 44, 3) := by decide +kernel
theorem dX3_storePage_37 : decode cX3_storePage 37 = .ok (.iload_n 1, 1) := by decide +kernel
theorem dX3_storePage_38 : decode cX3_storePage 38 = .ok (.bipush 16, 2) := by decide +kernel
theorem dX3_storePage_40 : decode cX3_storePage 40 = .ok (.imul, 1) := by decide +kernel
theorem dX3_storePage_41 : decode cX3_storePage 41 = .ok (.bipush 16, 2) := by decide +kernel
theorem dX3_storePage_43 : decode cX3_storePage 43 = .ok (.invokestatic 75, 3) := by decide +kernel
theorem dX3_storePage_46 : decode cX3_storePage 46 = .ok (.aload_n 0, 1) := by decide +kernel
theorem dX3_storePage_47 : decode cX3_storePage 47 = .ok (.getfield 32, 3) := by decide +kernel
theorem dX3_storePage_50 : decode cX3_storePage 50 = .ok (.iload_n 1, 1) := by decide +kernel
theorem dX3_storePage_51 : decode cX3_storePage 51 = .ok (.iload 4, 2) := by decide +kernel
theorem dX3_storePage_53 : decode cX3_storePage 53 = .ok (.iastore, 1) := by decide +kernel
theorem dX3_storePage_54 : decode cX3_storePage 54 = .ok (.iload 4, 2) := by decide +kernel
theorem dX3_storePage_56 : decode cX3_storePage 56 = .ok (.invokestatic 118, 3) := by decide +kernel
theorem dX3_storePage_59 : decode cX3_storePage 59 = .ok (.ifCond .eq 13, 3) := by decide +kernel
theorem dX3_storePage_62 : decode cX3_storePage 62 = .ok (.aload_n 0, 1) := by decide +kernel
theorem dX3_storePage_63 : decode cX3_storePage 63 = .ok (.getfield 28, 3) := by decide +kernel
theorem dX3_storePage_66 : decode cX3_storePage 66 = .ok (.iload_n 1, 1) := by decide +kernel
theorem dX3_storePage_67 : decode cX3_storePage 67 = .ok (.iconst 1, 1) := by decide +kernel
theorem dX3_storePage_68 : decode cX3_storePage 68 = .ok (.iastore, 1) := by decide +kernel
theorem dX3_storePage_69 : decode cX3_storePage 69 = .ok (.goto 25, 3) := by decide +kernel
theorem dX3_storePage_72 : decode cX3_storePage 72 = .ok (.iload 4, 2) := by decide +kernel
theorem dX3_storePage_74 : decode cX3_storePage 74 = .ok (.aload_n 0, 1) := by decide +kernel
theorem dX3_storePage_75 : decode cX3_storePage 75 = .ok (.getfield 18, 3) := by decide +kernel
theorem dX3_storePage_78 : decode cX3_storePage 78 = .ok (.if_icmp .le 11, 3) := by decide +kernel
theorem dX3_storePage_81 : decode cX3_storePage 81 = .ok (.aload_n 0, 1) := by decide +kernel
theorem dX3_storePage_82 : decode cX3_storePage 82 = .ok (.iload_n 1, 1) := by decide +kernel
theorem dX3_storePage_83 : decode cX3_storePage 83 = .ok (.invokevirtual 123, 3) := by decide +kernel
theorem dX3_storePage_86 : decode cX3_storePage 86 = .ok (.goto 8, 3) := by decide +kernel
theorem dX3_storePage_89 : decode cX3_storePage 89 = .ok (.aload_n 0, 1) := by decide +kernel
theorem dX3_storePage_90 : decode cX3_storePage 90 = .ok (.iload_n 1, 1) := by decide +kernel
theorem dX3_storePage_91 : decode cX3_storePage 91 = .ok (.invokevirtual 126, 3) := by decide +kernel
theorem dX3_storePage_94 : decode cX3_storePage 94 = .ok (.return_, 1) := by decide +kernel
theorem dX3_loadPage_0 : decode cX3_loadPage 0 = .ok (.iload_n 1, 1) := by decide +kernel
theorem dX3_loadPage_1 : decode cX3_loadPage 1 = .ok (.invokestatic 81, 3) := by decide +kernel
theorem dX3_loadPage_4 : decode cX3_loadPage 4 = .ok (.ifCond .ne 4, 3) := by decide +kernel
theorem dX3_loadPage_7 : decode cX3_loadPage 7 = .ok (.return_, 1) := by decide +kernel
theorem dX3_loadPage_8 : decode cX3_loadPage 8 = .ok (.aload_n 0, 1) := by decide +kernel
theorem dX3_loadPage_9 : decode cX3_loadPage 9 = .ok (.getfield 28, 3) := by decide +kernel
theorem dX3_loadPage_12 : decode cX3_loadPage 12 = .ok (.iload_n 1, 1) := by decide +kernel
theorem dX3_loadPage_13 : decode cX3_loadPage 13 = .ok (.iaload, 1) := by decide +kernel
theorem dX3_loadPage_14 : decode cX3_loadPage 14 = .ok (.iconst 2, 1) := by decide +kernel
theorem dX3_loadPage_15 : decode cX3_loadPage 15 = .ok (.if_icmp .ne 16, 3) := by decide +kernel
theorem dX3_loadPage_18 : decode cX3_loadPage 18 = .ok (.aload_n 0, 1) := by decide +kernel
theorem dX3_loadPage_19 : decode cX3_loadPage 19 = .ok (.iload_n 1, 1) := by decide +kernel
theorem dX3_loadPage_20 : decode cX3_loadPage 20 = .ok (.invokevirtual 129, 3) := by decide +kernel
theorem dX3_loadPage_23 : decode cX3_loadPage 23 = .ok (.aload_n 0, 1) := by decide +kernel
theorem dX3_loadPage_24 : decode cX3_loadPage 24 = .ok (.iload_n 1, 1) := by decide +kernel
theorem dX3_loadPage_25 : decode cX3_loadPage 25 = .ok (.invokevirtual 132, 3) := by decide +kernel
theorem dX3_loadPage_28 : decode cX3_loadPage 28 = .ok (.goto 23, 3) := by decide +kernel
theorem dX3_loadPage_31 : decode cX3_loadPage 31 = .ok (.aload_n 0, 1) := by decide +kernel
theorem dX3_loadPage_32 : decode cX3_loadPage 32 = .ok (.getfield 28, 3) := by decide +kernel
theorem dX3_loadPage_35 : decode cX3_loadPage 35 = .ok (.iload_n 1, 1) := by decide +kernel
theorem dX3_loadPage_36 : decode cX3_loadPage 36 = .ok (.iaload, 1) := by decide +kernel
theorem dX3_loadPage_37 : decode cX3_loadPage 37 = .ok (.iconst 3, 1) := by decide +kernel
theorem dX3_loadPage_38 : decode cX3_loadPage 38 = .ok (.if_icmp .ne 13, 3) := by decide +kernel
theorem dX3_loadPage_41 : decode cX3_loadPage 41 = .ok (.aload_n 0, 1) := by decide +kernel
theorem dX3_loadPage_42 : decode cX3_loadPage 42 = .ok (.getfield 50, 3) := by decide +kernel
theorem dX3_loadPage_45 : decode cX3_loadPage 45 = .ok (.iconst 2, 1) := by decide +kernel
theorem dX3_loadPage_46 : decode cX3_loadPage 46 = .ok (.dup2, 1) := by decide +kernel
theorem dX3_loadPage_47 : decode cX3_loadPage 47 = .ok (.iaload, 1) := by decide +kernel
theorem dX3_loadPage_48 : decode cX3_loadPage 48 = .ok (.iconst 1, 1) := by decide +kernel
theorem dX3_loadPage_49 : decode cX3_loadPage 49 = .ok (.iadd, 1) := by decide +kernel
theorem dX3_loadPage_50 : decode cX3_loadPage 50 = .ok (.iastore, 1) := by decide +kernel
theorem dX3_loadPage_51 : decode cX3_loadPage 51 = .ok (.return_, 1) := by decide +kernel
theorem dX3_dropPage_0 : decode cX3_dropPage 0 = .ok (.iload_n 1, 1) := by decide +kernel
theorem dX3_dropPage_1 : decode cX3_dropPage 1 = .ok (.invokestatic 81, 3) := by decide +kernel
theorem dX3_dropPage_4 : decode cX3_dropPage 4 = .ok (.ifCond .ne 4, 3) := by decide +kernel
theorem dX3_dropPage_7 : decode cX3_dropPage 7 = .ok (.return_, 1) := by decide +kernel
theorem dX3_dropPage_8 : decode cX3_dropPage 8 = .ok (.aload_n 0, 1) := by decide +kernel
theorem dX3_dropPage_9 : decode cX3_dropPage 9 = .ok (.getfield 28, 3) := by decide +kernel
theorem dX3_dropPage_12 : decode cX3_dropPage 12 = .ok (.iload_n 1, 1) := by decide +kernel
theorem dX3_dropPage_13 : decode cX3_dropPage 13 = .ok (.iaload, 1) := by decide +kernel
theorem dX3_dropPage_14 : decode cX3_dropPage 14 = .ok (.iconst 2, 1) := by decide +kernel
theorem dX3_dropPage_15 : decode cX3_dropPage 15 = .ok (.if_icmp .ne 8, 3) := by decide +kernel
theorem dX3_dropPage_18 : decode cX3_dropPage 18 = .ok (.aload_n 0, 1) := by decide +kernel
theorem dX3_dropPage_19 : decode cX3_dropPage 19 = .ok (.iload_n 1, 1) := by decide +kernel
theorem dX3_dropPage_20 : decode cX3_dropPage 20 = .ok (.invokevirtual 135, 3) := by decide +kernel
theorem dX3_dropPage_23 : decode cX3_dropPage 23 = .ok (.aload_n 0, 1) := by decide +kernel
theorem dX3_dropPage_24 : decode cX3_dropPage 24 = .ok (.getfield 28, 3) := by decide +kernel
theorem dX3_dropPage_27 : decode cX3_dropPage 27 = .ok (.iload_n 1, 1) := by decide +kernel
theorem dX3_dropPage_28 : decode cX3_dropPage 28 = .ok (.iconst 0, 1) := by decide +kernel
theorem dX3_dropPage_29 : decode cX3_dropPage 29 = .ok (.iastore, 1) := by decide +kernel
theorem dX3_dropPage_30 : decode cX3_dropPage 30 = .ok (.return_, 1) := by decide +kernel
theorem dX3_writeColdest_0 : decode cX3_writeColdest 0 = .ok (.iconst 0, 1) := by decide +kernel
theorem dX3_writeColdest_1 : decode cX3_writeColdest 1 = .ok (.istore_n 2, 1) := by decide +kernel
theorem dX3_writeColdest_2 : decode cX3_writeColdest 2 = .ok (.iload_n 2, 1) := by decide +kernel
theorem dX3_writeColdest_3 : decode cX3_writeColdest 3 = .ok (.iload_n 1, 1) := by decide +kernel
theorem dX3_writeColdest_4 : decode cX3_writeColdest 4 = .ok (.if_icmp .ge 25, 3) := by decide +kernel
theorem dX3_writeColdest_7 : decode cX3_writeColdest 7 = .ok (.aload_n 0, 1) := by decide +kernel
theorem dX3_writeColdest_8 : decode cX3_writeColdest 8 = .ok (.invokevirtual 138, 3) := by decide +kernel
theorem dX3_writeColdest_11 : decode cX3_writeColdest 11 = .ok (.istore_n 3, 1) := by decide +kernel
theorem dX3_writeColdest_12 : decode cX3_writeColdest 12 = .ok (.iload_n 3, 1) := by decide +kernel
theorem dX3_writeColdest_13 : decode cX3_writeColdest 13 = .ok (.ifCond .ge 5, 3) := by decide +kernel
theorem dX3_writeColdest_16 : decode cX3_writeColdest 16 = .ok (.iload_n 2, 1) := by decide +kernel
theorem dX3_writeColdest_17 : decode cX3_writeColdest 17 = .ok (.ireturn, 1) := by decide +kernel
theorem dX3_writeColdest_18 : decode cX3_writeColdest 18 = .ok (.aload_n 0, 1) := by decide +kernel
theorem dX3_writeColdest_19 : decode cX3_writeColdest 19 = .ok (.iload_n 3, 1) := by decide +kernel
theorem dX3_writeColdest_20 : decode cX3_writeColdest 20 = .ok (.invokevirtual 123, 3) := by decide +kernel
theorem dX3_writeColdest_23 : decode cX3_writeColdest 23 = .ok (.iinc 2 1, 3) := by decide +kernel
theorem dX3_writeColdest_26 : decode cX3_writeColdest 26 = .ok (.goto (-24), 3) := by decide +kernel
theorem dX3_writeColdest_29 : decode cX3_writeColdest 29 = .ok (.iload_n 1, 1) := by decide +kernel
theorem dX3_writeColdest_30 : decode cX3_writeColdest 30 = .ok (.ireturn, 1) := by decide +kernel
theorem dX3_changeLimit_0 : decode cX3_changeLimit 0 = .ok (.aload_n 0, 1) := by decide +kernel
theorem dX3_changeLimit_1 : decode cX3_changeLimit 1 = .ok (.iload_n 1, 1) := by decide +kernel
theorem dX3_changeLimit_2 : decode cX3_changeLimit 2 = .ok (.putfield 9, 3) := by decide +kernel
theorem dX3_changeLimit_5 : decode cX3_changeLimit 5 = .ok (.aload_n 0, 1) := by decide +kernel
theorem dX3_changeLimit_6 : decode cX3_changeLimit 6 = .ok (.iconst 0, 1) := by decide +kernel
theorem dX3_changeLimit_7 : decode cX3_changeLimit 7 = .ok (.putfield 68, 3) := by decide +kernel
theorem dX3_changeLimit_10 : decode cX3_changeLimit 10 = .ok (.iconst 0, 1) := by decide +kernel
theorem dX3_changeLimit_11 : decode cX3_changeLimit 11 = .ok (.istore_n 2, 1) := by decide +kernel
theorem dX3_changeLimit_12 : decode cX3_changeLimit 12 = .ok (.iload_n 2, 1) := by decide +kernel
theorem dX3_changeLimit_13 : decode cX3_changeLimit 13 = .ok (.bipush 30, 2) := by decide +kernel
theorem dX3_changeLimit_15 : decode cX3_changeLimit 15 = .ok (.if_icmp .ge 45, 3) := by decide +kernel
theorem dX3_changeLimit_18 : decode cX3_changeLimit 18 = .ok (.aload_n 0, 1) := by decide +kernel
theorem dX3_changeLimit_19 : decode cX3_changeLimit 19 = .ok (.getfield 24, 3) := by decide +kernel
theorem dX3_changeLimit_22 : decode cX3_changeLimit 22 = .ok (.getfield 102, 3) := by decide +kernel
theorem dX3_changeLimit_25 : decode cX3_changeLimit 25 = .ok (.aload_n 0, 1) := by decide +kernel
theorem dX3_changeLimit_26 : decode cX3_changeLimit 26 = .ok (.getfield 9, 3) := by decide +kernel
theorem dX3_changeLimit_29 : decode cX3_changeLimit 29 = .ok (.if_icmp .le 31, 3) := by decide +kernel
theorem dX3_changeLimit_32 : decode cX3_changeLimit 32 = .ok (.aload_n 0, 1) := by decide +kernel
theorem dX3_changeLimit_33 : decode cX3_changeLimit 33 = .ok (.invokevirtual 138, 3) := by decide +kernel
theorem dX3_changeLimit_36 : decode cX3_changeLimit 36 = .ok (.istore_n 3, 1) := by decide +kernel
theorem dX3_changeLimit_37 : decode cX3_changeLimit 37 = .ok (.iload_n 3, 1) := by decide +kernel
theorem dX3_changeLimit_38 : decode cX3_changeLimit 38 = .ok (.ifCond .ge 6, 3) := by decide +kernel
theorem dX3_changeLimit_41 : decode cX3_changeLimit 41 = .ok (.goto 19, 3) := by decide +kernel
theorem dX3_changeLimit_44 : decode cX3_changeLimit 44 = .ok (.aload_n 0, 1) := by decide +kernel
theorem dX3_changeLimit_45 : decode cX3_changeLimit 45 = .ok (.iload_n 3, 1) := by decide +kernel
theorem dX3_changeLimit_46 : decode cX3_changeLimit 46 = .ok (.invokevirtual 123, 3) := by decide +kernel
theorem dX3_changeLimit_49 : decode cX3_changeLimit 49 = .ok (.aload_n 0, 1) := by decide +kernel
theorem dX3_changeLimit_50 : decode cX3_changeLimit 50 = .ok (.iload_n 3, 1) := by decide +kernel
theorem dX3_changeLimit_51 : decode cX3_changeLimit 51 = .ok (.invokevirtual 141, 3) := by decide +kernel
theorem dX3_changeLimit_54 : decode cX3_changeLimit 54 = .ok (.iinc 2 1, 3) := by decide +kernel
theorem dX3_changeLimit_57 : decode cX3_changeLimit 57 = .ok (.goto (-45), 3) := by decide +kernel
theorem dX3_changeLimit_60 : decode cX3_changeLimit 60 = .ok (.aload_n 0, 1) := by decide +kernel
theorem dX3_changeLimit_61 : decode cX3_changeLimit 61 = .ok (.getfield 68, 3) := by decide +kernel
theorem dX3_changeLimit_64 : decode cX3_changeLimit 64 = .ok (.ireturn, 1) := by decide +kernel
theorem dX3_compactAll_0 : decode cX3_compactAll 0 = .ok (.aload_n 0, 1) := by decide +kernel
theorem dX3_compactAll_1 : decode cX3_compactAll 1 = .ok (.getfield 24, 3) := by decide +kernel
theorem dX3_compactAll_4 : decode cX3_compactAll 4 = .ok (.getfield 102, 3) := by decide +kernel
theorem dX3_compactAll_7 : decode cX3_compactAll 7 = .ok (.istore_n 1, 1) := by decide +kernel
theorem dX3_compactAll_8 : decode cX3_compactAll 8 = .ok (.iconst 1, 1) := by decide +kernel
theorem dX3_compactAll_9 : decode cX3_compactAll 9 = .ok (.istore_n 2, 1) := by decide +kernel
theorem dX3_compactAll_10 : decode cX3_compactAll 10 = .ok (.iload_n 2, 1) := by decide +kernel
theorem dX3_compactAll_11 : decode cX3_compactAll 11 = .ok (.bipush 16, 2) := by decide +kernel
theorem dX3_compactAll_13 : decode cX3_compactAll 13 = .ok (.if_icmp .gt 14, 3) := by decide +kernel
theorem dX3_compactAll_16 : decode cX3_compactAll 16 = .ok (.aload_n 0, 1) := by decide +kernel
theorem dX3_compactAll_17 : decode cX3_compactAll 17 = .ok (.iload_n 2, 1) := by decide +kernel
theorem dX3_compactAll_18 : decode cX3_compactAll 18 = .ok (.invokevirtual 144, 3) := by decide +kernel
theorem dX3_compactAll_21 : decode cX3_compactAll 21 = .ok (.iinc 2 1, 3) := by decide +kernel
theorem dX3_compactAll_24 : decode cX3_compactAll 24 = .ok (.goto (-14), 3) := by decide +kernel
theorem dX3_compactAll_27 : decode cX3_compactAll 27 = .ok (.iload_n 1, 1) := by decide +kernel
theorem dX3_compactAll_28 : decode cX3_compactAll 28 = .ok (.aload_n 0, 1) := by decide +kernel
theorem dX3_compactAll_29 : decode cX3_compactAll 29 = .ok (.getfield 24, 3) := by decide +kernel
theorem dX3_compactAll_32 : decode cX3_compactAll 32 = .ok (.getfield 102, 3) := by decide +kernel
theorem dX3_compactAll_35 : decode cX3_compactAll 35 = .ok (.isub, 1) := by decide +kernel
theorem dX3_compactAll_36 : decode cX3_compactAll 36 = .ok (.ireturn, 1) := by decide +kernel
theorem dX3_compactClass_0 : decode cX3_compactClass 0 = .ok (.iconst 0, 1) := by decide +kernel
theorem dX3_compactClass_1 : decode cX3_compactClass 1 = .ok (.istore_n 2, 1) := by decide +kernel
theorem dX3_compactClass_2 : decode cX3_compactClass 2 = .ok (.iload_n 2, 1) := by decide +kernel
theorem dX3_compactClass_3 : decode cX3_compactClass 3 = .ok (.sipush 384, 3) := by decide +kernel
theorem dX3_compactClass_6 : decode cX3_compactClass 6 = .ok (.if_icmp .ge 120, 3) := by decide +kernel
theorem dX3_compactClass_9 : decode cX3_compactClass 9 = .ok (.aload_n 0, 1) := by decide +kernel
theorem dX3_compactClass_10 : decode cX3_compactClass 10 = .ok (.getfield 24, 3) := by decide +kernel
theorem dX3_compactClass_13 : decode cX3_compactClass 13 = .ok (.iload_n 1, 1) := by decide +kernel
theorem dX3_compactClass_14 : decode cX3_compactClass 14 = .ok (.invokevirtual 147, 3) := by decide +kernel
theorem dX3_compactClass_17 : decode cX3_compactClass 17 = .ok (.istore_n 3, 1) := by decide +kernel
theorem dX3_compactClass_18 : decode cX3_compactClass 18 = .ok (.aload_n 0, 1) := by decide +kernel
theorem dX3_compactClass_19 : decode cX3_compactClass 19 = .ok (.getfield 24, 3) := by decide +kernel
theorem dX3_compactClass_22 : decode cX3_compactClass 22 = .ok (.iload_n 1, 1) := by decide +kernel
theorem dX3_compactClass_23 : decode cX3_compactClass 23 = .ok (.iload_n 3, 1) := by decide +kernel
theorem dX3_compactClass_24 : decode cX3_compactClass 24 = .ok (.invokevirtual 95, 3) := by decide +kernel
theorem dX3_compactClass_27 : decode cX3_compactClass 27 = .ok (.istore 4, 2) := by decide +kernel
theorem dX3_compactClass_29 : decode cX3_compactClass 29 = .ok (.iload_n 3, 1) := by decide +kernel
theorem dX3_compactClass_30 : decode cX3_compactClass 30 = .ok (.ifCond .lt 19, 3) := by decide +kernel
theorem dX3_compactClass_33 : decode cX3_compactClass 33 = .ok (.iload 4, 2) := by decide +kernel
theorem dX3_compactClass_35 : decode cX3_compactClass 35 = .ok (.ifCond .lt 14, 3) := by decide +kernel
theorem dX3_compactClass_38 : decode cX3_compactClass 38 = .ok (.aload_n 0, 1) := by decide +kernel
theorem dX3_compactClass_39 : decode cX3_compactClass 39 = .ok (.getfield 24, 3) := by decide +kernel
theorem dX3_compactClass_42 : decode cX3_compactClass 42 = .ok (.iload_n 3, 1) := by decide +kernel
theorem dX3_compactClass_43 : decode cX3_compactClass 43 = .ok (.invokevirtual 150, 3) := by decide +kernel
theorem dX3_compactClass_46 : decode cX3_compactClass 46 = .ok (.goto 4, 3) := by decide +kernel
theorem dX3_compactClass_49 : decode cX3_compactClass 49 = .ok (.iconst (-1), 1) := by decide +kernel
theorem dX3_compactClass_50 : decode cX3_compactClass 50 = .ok (.istore 5, 2) := by decide +kernel
theorem dX3_compactClass_52 : decode cX3_compactClass 52 = .ok (.iload 5, 2) := by decide +kernel
theorem dX3_compactClass_54 : decode cX3_compactClass 54 = .ok (.invokestatic 81, 3) := by decide +kernel
theorem dX3_compactClass_57 : decode cX3_compactClass 57 = .ok (.ifCond .ne 4, 3) := by decide +kernel
theorem dX3_compactClass_60 : decode cX3_compactClass 60 = .ok (.return_, 1) := by decide +kernel
theorem dX3_compactClass_61 : decode cX3_compactClass 61 = .ok (.aload_n 0, 1) := by decide +kernel
theorem dX3_compactClass_62 : decode cX3_compactClass 62 = .ok (.getfield 24, 3) := by decide +kernel
theorem dX3_compactClass_65 : decode cX3_compactClass 65 = .ok (.aload_n 0, 1) := by decide +kernel
theorem dX3_compactClass_66 : decode cX3_compactClass 66 = .ok (.getfield 35, 3) := by decide +kernel
theorem dX3_compactClass_69 : decode cX3_compactClass 69 = .ok (.iload 5, 2) := by decide +kernel
theorem dX3_compactClass_71 : decode cX3_compactClass 71 = .ok (.iaload, 1) := by decide +kernel
theorem dX3_compactClass_72 : decode cX3_compactClass 72 = .ok (.aload_n 0, 1) := by decide +kernel
theorem dX3_compactClass_73 : decode cX3_compactClass 73 = .ok (.getfield 38, 3) := by decide +kernel
theorem dX3_compactClass_76 : decode cX3_compactClass 76 = .ok (.iload 5, 2) := by decide +kernel
theorem dX3_compactClass_78 : decode cX3_compactClass 78 = .ok (.iaload, 1) := by decide +kernel
theorem dX3_compactClass_79 : decode cX3_compactClass 79 = .ok (.invokevirtual 153, 3) := by decide +kernel
theorem dX3_compactClass_82 : decode cX3_compactClass 82 = .ok (.aload_n 0, 1) := by decide +kernel
theorem dX3_compactClass_83 : decode cX3_compactClass 83 = .ok (.getfield 35, 3) := by decide +kernel
theorem dX3_compactClass_86 : decode cX3_compactClass 86 = .ok (.iload 5, 2) := by decide +kernel
theorem dX3_compactClass_88 : decode cX3_compactClass 88 = .ok (.iload 4, 2) := by decide +kernel
theorem dX3_compactClass_90 : decode cX3_compactClass 90 = .ok (.iastore, 1) := by decide +kernel
theorem dX3_compactClass_91 : decode cX3_compactClass 91 = .ok (.aload_n 0, 1) := by decide +kernel
theorem dX3_compactClass_92 : decode cX3_compactClass 92 = .ok (.getfield 38, 3) := by decide +kernel
theorem dX3_compactClass_95 : decode cX3_compactClass 95 = .ok (.iload 5, 2) := by decide +kernel
theorem dX3_compactClass_97 : decode cX3_compactClass 97 = .ok (.aload_n 0, 1) := by decide +kernel
theorem dX3_compactClass_98 : decode cX3_compactClass 98 = .ok (.getfield 24, 3) := by decide +kernel
theorem dX3_compactClass_101 : decode cX3_compactClass 101 = .ok (.iload 4, 2) := by decide +kernel
theorem dX3_compactClass_103 : decode cX3_compactClass 103 = .ok (.iload_n 1, 1) := by decide +kernel
theorem dX3_compactClass_104 : decode cX3_compactClass 104 = .ok (.iload 5, 2) := by decide +kernel
theorem dX3_compactClass_106 : decode cX3_compactClass 106 = .ok (.invokevirtual 157, 3) := by decide +kernel
theorem dX3_compactClass_109 : decode cX3_compactClass 109 = .ok (.iastore, 1) := by decide +kernel
theorem dX3_compactClass_110 : decode cX3_compactClass 110 = .ok (.aload_n 0, 1) := by decide +kernel
theorem dX3_compactClass_111 : decode cX3_compactClass 111 = .ok (.getfield 50, 3) := by decide +kernel
theorem dX3_compactClass_114 : decode cX3_compactClass 114 = .ok (.iconst 3, 1) := by decide +kernel
theorem dX3_compactClass_115 : decode cX3_compactClass 115 = .ok (.dup2, 1) := by decide +kernel
theorem dX3_compactClass_116 : decode cX3_compactClass 116 = .ok (.iaload, 1) := by decide +kernel
theorem dX3_compactClass_117 : decode cX3_compactClass 117 = .ok (.iconst 1, 1) := by decide +kernel
theorem dX3_compactClass_118 : decode cX3_compactClass 118 = .ok (.iadd, 1) := by decide +kernel
theorem dX3_compactClass_119 : decode cX3_compactClass 119 = .ok (.iastore, 1) := by decide +kernel
theorem dX3_compactClass_120 : decode cX3_compactClass 120 = .ok (.iinc 2 1, 3) := by decide +kernel
theorem dX3_compactClass_123 : decode cX3_compactClass 123 = .ok (.goto (-121), 3) := by decide +kernel
theorem dX3_compactClass_126 : decode cX3_compactClass 126 = .ok (.return_, 1) := by decide +kernel
theorem dX3_settle_0 : decode cX3_settle 0 = .ok (.aload_n 0, 1) := by decide +kernel
theorem dX3_settle_1 : decode cX3_settle 1 = .ok (.getfield 32, 3) := by decide +kernel
theorem dX3_settle_4 : decode cX3_settle 4 = .ok (.iload_n 1, 1) := by decide +kernel
theorem dX3_settle_5 : decode cX3_settle 5 = .ok (.iaload, 1) := by decide +kernel
theorem dX3_settle_6 : decode cX3_settle 6 = .ok (.aload_n 0, 1) := by decide +kernel
theorem dX3_settle_7 : decode cX3_settle 7 = .ok (.getfield 15, 3) := by decide +kernel
theorem dX3_settle_10 : decode cX3_settle 10 = .ok (.invokestatic 89, 3) := by decide +kernel
theorem dX3_settle_13 : decode cX3_settle 13 = .ok (.istore_n 2, 1) := by decide +kernel
theorem dX3_settle_14 : decode cX3_settle 14 = .ok (.iconst 0, 1) := by decide +kernel
theorem dX3_settle_15 : decode cX3_settle 15 = .ok (.istore_n 3, 1) := by decide +kernel
theorem dX3_settle_16 : decode cX3_settle 16 = .ok (.iload_n 3, 1) := by decide +kernel
theorem dX3_settle_17 : decode cX3_settle 17 = .ok (.bipush 30, 2) := by decide +kernel
theorem dX3_settle_19 : decode cX3_settle 19 = .ok (.if_icmp .gt 85, 3) := by decide +kernel
theorem dX3_settle_22 : decode cX3_settle 22 = .ok (.aload_n 0, 1) := by decide +kernel
theorem dX3_settle_23 : decode cX3_settle 23 = .ok (.iload_n 2, 1) := by decide +kernel
theorem dX3_settle_24 : decode cX3_settle 24 = .ok (.invokevirtual 161, 3) := by decide +kernel
theorem dX3_settle_27 : decode cX3_settle 27 = .ok (.istore 4, 2) := by decide +kernel
theorem dX3_settle_29 : decode cX3_settle 29 = .ok (.iload 4, 2) := by decide +kernel
theorem dX3_settle_31 : decode cX3_settle 31 = .ok (.ifCond .lt 41, 3) := by decide +kernel
theorem dX3_settle_34 : decode cX3_settle 34 = .ok (.aload_n 0, 1) := by decide +kernel
theorem dX3_settle_35 : decode cX3_settle 35 = .ok (.getfield 35, 3) := by decide +kernel
theorem dX3_settle_38 : decode cX3_settle 38 = .ok (.iload_n 1, 1) := by decide +kernel
theorem dX3_settle_39 : decode cX3_settle 39 = .ok (.iload 4, 2) := by decide +kernel
theorem dX3_settle_41 : decode cX3_settle 41 = .ok (.iastore, 1) := by decide +kernel
theorem dX3_settle_42 : decode cX3_settle 42 = .ok (.aload_n 0, 1) := by decide +kernel
theorem dX3_settle_43 : decode cX3_settle 43 = .ok (.getfield 38, 3) := by decide +kernel
theorem dX3_settle_46 : decode cX3_settle 46 = .ok (.iload_n 1, 1) := by decide +kernel
theorem dX3_settle_47 : decode cX3_settle 47 = .ok (.aload_n 0, 1) := by decide +kernel
theorem dX3_settle_48 : decode cX3_settle 48 = .ok (.getfield 24, 3) := by decide +kernel
theorem dX3_settle_51 : decode cX3_settle 51 = .ok (.iload 4, 2) := by decide +kernel
theorem dX3_settle_53 : decode cX3_settle 53 = .ok (.iload_n 2, 1) := by decide +kernel
theorem dX3_settle_54 : decode cX3_settle 54 = .ok (.iload_n 1, 1) := by decide +kernel
theorem dX3_settle_55 : decode cX3_settle 55 = .ok (.invokevirtual 157, 3) := by decide +kernel
theorem dX3_settle_58 : decode cX3_settle 58 = .ok (.iastore, 1) := by decide +kernel
theorem dX3_settle_59 : decode cX3_settle 59 = .ok (.aload_n 0, 1) := by decide +kernel
theorem dX3_settle_60 : decode cX3_settle 60 = .ok (.getfield 28, 3) := by decide +kernel
theorem dX3_settle_63 : decode cX3_settle 63 = .ok (.iload_n 1, 1) := by decide +kernel
theorem dX3_settle_64 : decode cX3_settle 64 = .ok (.iconst 2, 1) := by decide +kernel
theorem dX3_settle_65 : decode cX3_settle 65 = .ok (.iastore, 1) := by decide +kernel
theorem dX3_settle_66 : decode cX3_settle 66 = .ok (.aload_n 0, 1) := by decide +kernel
theorem dX3_settle_67 : decode cX3_settle 67 = .ok (.iload_n 1, 1) := by decide +kernel
theorem dX3_settle_68 : decode cX3_settle 68 = .ok (.invokevirtual 132, 3) := by decide +kernel
theorem dX3_settle_71 : decode cX3_settle 71 = .ok (.return_, 1) := by decide +kernel
theorem dX3_settle_72 : decode cX3_settle 72 = .ok (.aload_n 0, 1) := by decide +kernel
theorem dX3_settle_73 : decode cX3_settle 73 = .ok (.invokevirtual 138, 3) := by decide +kernel
theorem dX3_settle_76 : decode cX3_settle 76 = .ok (.istore 5, 2) := by decide +kernel
theorem dX3_settle_78 : decode cX3_settle 78 = .ok (.iload 5, 2) := by decide +kernel
theorem dX3_settle_80 : decode cX3_settle 80 = .ok (.ifCond .ge 6, 3) := by decide +kernel
theorem dX3_settle_83 : decode cX3_settle 83 = .ok (.goto 21, 3) := by decide +kernel
theorem dX3_settle_86 : decode cX3_settle 86 = .ok (.aload_n 0, 1) := by decide +kernel
theorem dX3_settle_87 : decode cX3_settle 87 = .ok (.iload 5, 2) := by decide +kernel
theorem dX3_settle_89 : decode cX3_settle 89 = .ok (.invokevirtual 123, 3) := by decide +kernel
theorem dX3_settle_92 : decode cX3_settle 92 = .ok (.aload_n 0, 1) := by decide +kernel
theorem dX3_settle_93 : decode cX3_settle 93 = .ok (.iload 5, 2) := by decide +kernel
theorem dX3_settle_95 : decode cX3_settle 95 = .ok (.invokevirtual 141, 3) := by decide +kernel
theorem dX3_settle_98 : decode cX3_settle 98 = .ok (.iinc 3 1, 3) := by decide +kernel
theorem dX3_settle_101 : decode cX3_settle 101 = .ok (.goto (-85), 3) := by decide +kernel
theorem dX3_settle_104 : decode cX3_settle 104 = .ok (.aload_n 0, 1) := by decide +kernel
theorem dX3_settle_105 : decode cX3_settle 105 = .ok (.iload_n 1, 1) := by decide +kernel
theorem dX3_settle_106 : decode cX3_settle 106 = .ok (.invokevirtual 123, 3) := by decide +kernel
theorem dX3_settle_109 : decode cX3_settle 109 = .ok (.aload_n 0, 1) := by decide +kernel
theorem dX3_settle_110 : decode cX3_settle 110 = .ok (.iload_n 1, 1) := by decide +kernel
theorem dX3_settle_111 : decode cX3_settle 111 = .ok (.invokevirtual 141, 3) := by decide +kernel
theorem dX3_settle_114 : decode cX3_settle 114 = .ok (.return_, 1) := by decide +kernel
theorem dX3_writeOut_0 : decode cX3_writeOut 0 = .ok (.aload_n 0, 1) := by decide +kernel
theorem dX3_writeOut_1 : decode cX3_writeOut 1 = .ok (.getfield 28, 3) := by decide +kernel
theorem dX3_writeOut_4 : decode cX3_writeOut 4 = .ok (.iload_n 1, 1) := by decide +kernel
theorem dX3_writeOut_5 : decode cX3_writeOut 5 = .ok (.iaload, 1) := by decide +kernel
theorem dX3_writeOut_6 : decode cX3_writeOut 6 = .ok (.iconst 2, 1) := by decide +kernel
theorem dX3_writeOut_7 : decode cX3_writeOut 7 = .ok (.if_icmp .ne 8, 3) := by decide +kernel
theorem dX3_writeOut_10 : decode cX3_writeOut 10 = .ok (.aload_n 0, 1) := by decide +kernel
theorem dX3_writeOut_11 : decode cX3_writeOut 11 = .ok (.iload_n 1, 1) := by decide +kernel
theorem dX3_writeOut_12 : decode cX3_writeOut 12 = .ok (.invokevirtual 135, 3) := by decide +kernel
theorem dX3_writeOut_15 : decode cX3_writeOut 15 = .ok (.aload_n 0, 1) := by decide +kernel
theorem dX3_writeOut_16 : decode cX3_writeOut 16 = .ok (.getfield 28, 3) := by decide +kernel
theorem dX3_writeOut_19 : decode cX3_writeOut 19 = .ok (.iload_n 1, 1) := by decide +kernel
theorem dX3_writeOut_20 : decode cX3_writeOut 20 = .ok (.iconst 3, 1) := by decide +kernel
theorem dX3_writeOut_21 : decode cX3_writeOut 21 = .ok (.iastore, 1) := by decide +kernel
theorem dX3_writeOut_22 : decode cX3_writeOut 22 = .ok (.aload_n 0, 1) := by decide +kernel
theorem dX3_writeOut_23 : decode cX3_writeOut 23 = .ok (.getfield 50, 3) := by decide +kernel
theorem dX3_writeOut_26 : decode cX3_writeOut 26 = .ok (.iconst 0, 1) := by decide +kernel
theorem dX3_writeOut_27 : decode cX3_writeOut 27 = .ok (.dup2, 1) := by decide +kernel
theorem dX3_writeOut_28 : decode cX3_writeOut 28 = .ok (.iaload, 1) := by decide +kernel
theorem dX3_writeOut_29 : decode cX3_writeOut 29 = .ok (.iconst 1, 1) := by decide +kernel
theorem dX3_writeOut_30 : decode cX3_writeOut 30 = .ok (.iadd, 1) := by decide +kernel
theorem dX3_writeOut_31 : decode cX3_writeOut 31 = .ok (.iastore, 1) := by decide +kernel
theorem dX3_writeOut_32 : decode cX3_writeOut 32 = .ok (.return_, 1) := by decide +kernel
theorem dX3_notePushed_0 : decode cX3_notePushed 0 = .ok (.aload_n 0, 1) := by decide +kernel
theorem dX3_notePushed_1 : decode cX3_notePushed 1 = .ok (.getfield 50, 3) := by decide +kernel
theorem dX3_notePushed_4 : decode cX3_notePushed 4 = .ok (.iconst 1, 1) := by decide +kernel
theorem dX3_notePushed_5 : decode cX3_notePushed 5 = .ok (.dup2, 1) := by decide +kernel
theorem dX3_notePushed_6 : decode cX3_notePushed 6 = .ok (.iaload, 1) := by decide +kernel
theorem dX3_notePushed_7 : decode cX3_notePushed 7 = .ok (.iconst 1, 1) := by decide +kernel
theorem dX3_notePushed_8 : decode cX3_notePushed 8 = .ok (.iadd, 1) := by decide +kernel
theorem dX3_notePushed_9 : decode cX3_notePushed 9 = .ok (.iastore, 1) := by decide +kernel
theorem dX3_notePushed_10 : decode cX3_notePushed 10 = .ok (.aload_n 0, 1) := by decide +kernel
theorem dX3_notePushed_11 : decode cX3_notePushed 11 = .ok (.getfield 68, 3) := by decide +kernel
theorem dX3_notePushed_14 : decode cX3_notePushed 14 = .ok (.bipush 30, 2) := by decide +kernel
theorem dX3_notePushed_16 : decode cX3_notePushed 16 = .ok (.if_icmp .ge 23, 3) := by decide +kernel
theorem dX3_notePushed_19 : decode cX3_notePushed 19 = .ok (.aload_n 0, 1) := by decide +kernel
theorem dX3_notePushed_20 : decode cX3_notePushed 20 = .ok (.getfield 53, 3) := by decide +kernel
theorem dX3_notePushed_23 : decode cX3_notePushed 23 = .ok (.aload_n 0, 1) := by decide +kernel
theorem dX3_notePushed_24 : decode cX3_notePushed 24 = .ok (.getfield 68, 3) := by decide +kernel
theorem dX3_notePushed_27 : decode cX3_notePushed 27 = .ok (.iload_n 1, 1) := by decide +kernel
theorem dX3_notePushed_28 : decode cX3_notePushed 28 = .ok (.iastore, 1) := by decide +kernel
theorem dX3_notePushed_29 : decode cX3_notePushed 29 = .ok (.aload_n 0, 1) := by decide +kernel
theorem dX3_notePushed_30 : decode cX3_notePushed 30 = .ok (.dup, 1) := by decide +kernel
theorem dX3_notePushed_31 : decode cX3_notePushed 31 = .ok (.getfield 68, 3) := by decide +kernel
theorem dX3_notePushed_34 : decode cX3_notePushed 34 = .ok (.iconst 1, 1) := by decide +kernel
theorem dX3_notePushed_35 : decode cX3_notePushed 35 = .ok (.iadd, 1) := by decide +kernel
theorem dX3_notePushed_36 : decode cX3_notePushed 36 = .ok (.putfield 68, 3) := by decide +kernel
theorem dX3_notePushed_39 : decode cX3_notePushed 39 = .ok (.return_, 1) := by decide +kernel
theorem dX3_leavePool_0 : decode cX3_leavePool 0 = .ok (.aload_n 0, 1) := by decide +kernel
theorem dX3_leavePool_1 : decode cX3_leavePool 1 = .ok (.iload_n 1, 1) := by decide +kernel
theorem dX3_leavePool_2 : decode cX3_leavePool 2 = .ok (.invokevirtual 129, 3) := by decide +kernel
theorem dX3_leavePool_5 : decode cX3_leavePool 5 = .ok (.aload_n 0, 1) := by decide +kernel
theorem dX3_leavePool_6 : decode cX3_leavePool 6 = .ok (.getfield 24, 3) := by decide +kernel
theorem dX3_leavePool_9 : decode cX3_leavePool 9 = .ok (.aload_n 0, 1) := by decide +kernel
theorem dX3_leavePool_10 : decode cX3_leavePool 10 = .ok (.getfield 35, 3) := by decide +kernel
theorem dX3_leavePool_13 : decode cX3_leavePool 13 = .ok (.iload_n 1, 1) := by decide +kernel
theorem dX3_leavePool_14 : decode cX3_leavePool 14 = .ok (.iaload, 1) := by decide +kernel
theorem dX3_leavePool_15 : decode cX3_leavePool 15 = .ok (.aload_n 0, 1) := by decide +kernel
theorem dX3_leavePool_16 : decode cX3_leavePool 16 = .ok (.getfield 38, 3) := by decide +kernel
theorem dX3_leavePool_19 : decode cX3_leavePool 19 = .ok (.iload_n 1, 1) := by decide +kernel
theorem dX3_leavePool_20 : decode cX3_leavePool 20 = .ok (.iaload, 1) := by decide +kernel
theorem dX3_leavePool_21 : decode cX3_leavePool 21 = .ok (.invokevirtual 153, 3) := by decide +kernel
theorem dX3_leavePool_24 : decode cX3_leavePool 24 = .ok (.aload_n 0, 1) := by decide +kernel
theorem dX3_leavePool_25 : decode cX3_leavePool 25 = .ok (.getfield 41, 3) := by decide +kernel
theorem dX3_leavePool_28 : decode cX3_leavePool 28 = .ok (.iload_n 1, 1) := by decide +kernel
theorem dX3_leavePool_29 : decode cX3_leavePool 29 = .ok (.iconst 0, 1) := by decide +kernel
theorem dX3_leavePool_30 : decode cX3_leavePool 30 = .ok (.iastore, 1) := by decide +kernel
theorem dX3_leavePool_31 : decode cX3_leavePool 31 = .ok (.return_, 1) := by decide +kernel
theorem dX3_leaveAges_0 : decode cX3_leaveAges 0 = .ok (.iconst 0, 1) := by decide +kernel
theorem dX3_leaveAges_1 : decode cX3_leaveAges 1 = .ok (.istore_n 2, 1) := by decide +kernel
theorem dX3_leaveAges_2 : decode cX3_leaveAges 2 = .ok (.iconst 0, 1) := by decide +kernel
theorem dX3_leaveAges_3 : decode cX3_leaveAges 3 = .ok (.istore_n 3, 1) := by decide +kernel
theorem dX3_leaveAges_4 : decode cX3_leaveAges 4 = .ok (.iload_n 3, 1) := by decide +kernel
theorem dX3_leaveAges_5 : decode cX3_leaveAges 5 = .ok (.aload_n 0, 1) := by decide +kernel
theorem dX3_leaveAges_6 : decode cX3_leaveAges 6 = .ok (.getfield 65, 3) := by decide +kernel
theorem dX3_leaveAges_9 : decode cX3_leaveAges 9 = .ok (.if_icmp .ge 40, 3) := by decide +kernel
theorem dX3_leaveAges_12 : decode cX3_leaveAges 12 = .ok (.iload_n 3, 1) := by decide +kernel
theorem dX3_leaveAges_13 : decode cX3_leaveAges 13 = .ok (.bipush 30, 2) := by decide +kernel
theorem dX3_leaveAges_15 : decode cX3_leaveAges 15 = .ok (.if_icmp .ge 34, 3) := by decide +kernel
theorem dX3_leaveAges_18 : decode cX3_leaveAges 18 = .ok (.aload_n 0, 1) := by decide +kernel
theorem dX3_leaveAges_19 : decode cX3_leaveAges 19 = .ok (.getfield 47, 3) := by decide +kernel
theorem dX3_leaveAges_22 : decode cX3_leaveAges 22 = .ok (.iload_n 3, 1) := by decide +kernel
theorem dX3_leaveAges_23 : decode cX3_leaveAges 23 = .ok (.iaload, 1) := by decide +kernel
theorem dX3_leaveAges_24 : decode cX3_leaveAges 24 = .ok (.iload_n 1, 1) := by decide +kernel
theorem dX3_leaveAges_25 : decode cX3_leaveAges 25 = .ok (.if_icmp .eq 18, 3) := by decide +kernel
theorem dX3_leaveAges_28 : decode cX3_leaveAges 28 = .ok (.aload_n 0, 1) := by decide +kernel
theorem dX3_leaveAges_29 : decode cX3_leaveAges 29 = .ok (.getfield 47, 3) := by decide +kernel
theorem dX3_leaveAges_32 : decode cX3_leaveAges 32 = .ok (.iload_n 2, 1) := by decide +kernel
theorem dX3_leaveAges_33 : decode cX3_leaveAges 33 = .ok (.aload_n 0, 1) := by decide +kernel
theorem dX3_leaveAges_34 : decode cX3_leaveAges 34 = .ok (.getfield 47, 3) := by decide +kernel
theorem dX3_leaveAges_37 : decode cX3_leaveAges 37 = .ok (.iload_n 3, 1) := by decide +kernel
theorem dX3_leaveAges_38 : decode cX3_leaveAges 38 = .ok (.iaload, 1) := by decide +kernel
theorem dX3_leaveAges_39 : decode cX3_leaveAges 39 = .ok (.iastore, 1) := by decide +kernel
theorem dX3_leaveAges_40 : decode cX3_leaveAges 40 = .ok (.iinc 2 1, 3) := by decide +kernel
theorem dX3_leaveAges_43 : decode cX3_leaveAges 43 = .ok (.iinc 3 1, 3) := by decide +kernel
theorem dX3_leaveAges_46 : decode cX3_leaveAges 46 = .ok (.goto (-42), 3) := by decide +kernel
theorem dX3_leaveAges_49 : decode cX3_leaveAges 49 = .ok (.aload_n 0, 1) := by decide +kernel
theorem dX3_leaveAges_50 : decode cX3_leaveAges 50 = .ok (.iload_n 2, 1) := by decide +kernel
theorem dX3_leaveAges_51 : decode cX3_leaveAges 51 = .ok (.putfield 65, 3) := by decide +kernel
theorem dX3_leaveAges_54 : decode cX3_leaveAges 54 = .ok (.return_, 1) := by decide +kernel
theorem dX3_addYoungest_0 : decode cX3_addYoungest 0 = .ok (.aload_n 0, 1) := by decide +kernel
theorem dX3_addYoungest_1 : decode cX3_addYoungest 1 = .ok (.getfield 65, 3) := by decide +kernel
theorem dX3_addYoungest_4 : decode cX3_addYoungest 4 = .ok (.bipush 30, 2) := by decide +kernel
theorem dX3_addYoungest_6 : decode cX3_addYoungest 6 = .ok (.if_icmp .ge 23, 3) := by decide +kernel
theorem dX3_addYoungest_9 : decode cX3_addYoungest 9 = .ok (.aload_n 0, 1) := by decide +kernel
theorem dX3_addYoungest_10 : decode cX3_addYoungest 10 = .ok (.getfield 47, 3) := by decide +kernel
theorem dX3_addYoungest_13 : decode cX3_addYoungest 13 = .ok (.aload_n 0, 1) := by decide +kernel
theorem dX3_addYoungest_14 : decode cX3_addYoungest 14 = .ok (.getfield 65, 3) := by decide +kernel
theorem dX3_addYoungest_17 : decode cX3_addYoungest 17 = .ok (.iload_n 1, 1) := by decide +kernel
theorem dX3_addYoungest_18 : decode cX3_addYoungest 18 = .ok (.iastore, 1) := by decide +kernel
theorem dX3_addYoungest_19 : decode cX3_addYoungest 19 = .ok (.aload_n 0, 1) := by decide +kernel
theorem dX3_addYoungest_20 : decode cX3_addYoungest 20 = .ok (.dup, 1) := by decide +kernel
theorem dX3_addYoungest_21 : decode cX3_addYoungest 21 = .ok (.getfield 65, 3) := by decide +kernel
theorem dX3_addYoungest_24 : decode cX3_addYoungest 24 = .ok (.iconst 1, 1) := by decide +kernel
theorem dX3_addYoungest_25 : decode cX3_addYoungest 25 = .ok (.iadd, 1) := by decide +kernel
theorem dX3_addYoungest_26 : decode cX3_addYoungest 26 = .ok (.putfield 65, 3) := by decide +kernel
theorem dX3_addYoungest_29 : decode cX3_addYoungest 29 = .ok (.return_, 1) := by decide +kernel
theorem dX3_pagesAtHome_0 : decode cX3_pagesAtHome 0 = .ok (.iconst 0, 1) := by decide +kernel
theorem dX3_pagesAtHome_1 : decode cX3_pagesAtHome 1 = .ok (.istore_n 3, 1) := by decide +kernel
theorem dX3_pagesAtHome_2 : decode cX3_pagesAtHome 2 = .ok (.iconst 0, 1) := by decide +kernel
theorem dX3_pagesAtHome_3 : decode cX3_pagesAtHome 3 = .ok (.istore 4, 2) := by decide +kernel
theorem dX3_pagesAtHome_5 : decode cX3_pagesAtHome 5 = .ok (.iload 4, 2) := by decide +kernel
theorem dX3_pagesAtHome_7 : decode cX3_pagesAtHome 7 = .ok (.bipush 30, 2) := by decide +kernel
theorem dX3_pagesAtHome_9 : decode cX3_pagesAtHome 9 = .ok (.if_icmp .ge 38, 3) := by decide +kernel
theorem dX3_pagesAtHome_12 : decode cX3_pagesAtHome 12 = .ok (.aload_n 0, 1) := by decide +kernel
theorem dX3_pagesAtHome_13 : decode cX3_pagesAtHome 13 = .ok (.getfield 28, 3) := by decide +kernel
theorem dX3_pagesAtHome_16 : decode cX3_pagesAtHome 16 = .ok (.iload 4, 2) := by decide +kernel
theorem dX3_pagesAtHome_18 : decode cX3_pagesAtHome 18 = .ok (.iaload, 1) := by decide +kernel
theorem dX3_pagesAtHome_19 : decode cX3_pagesAtHome 19 = .ok (.iconst 2, 1) := by decide +kernel
theorem dX3_pagesAtHome_20 : decode cX3_pagesAtHome 20 = .ok (.if_icmp .ne 21, 3) := by decide +kernel
theorem dX3_pagesAtHome_23 : decode cX3_pagesAtHome 23 = .ok (.aload_n 0, 1) := by decide +kernel
theorem dX3_pagesAtHome_24 : decode cX3_pagesAtHome 24 = .ok (.getfield 32, 3) := by decide +kernel
theorem dX3_pagesAtHome_27 : decode cX3_pagesAtHome 27 = .ok (.iload 4, 2) := by decide +kernel
theorem dX3_pagesAtHome_29 : decode cX3_pagesAtHome 29 = .ok (.iaload, 1) := by decide +kernel
theorem dX3_pagesAtHome_30 : decode cX3_pagesAtHome 30 = .ok (.iload_n 2, 1) := by decide +kernel
theorem dX3_pagesAtHome_31 : decode cX3_pagesAtHome 31 = .ok (.invokestatic 89, 3) := by decide +kernel
theorem dX3_pagesAtHome_34 : decode cX3_pagesAtHome 34 = .ok (.iload_n 1, 1) := by decide +kernel
theorem dX3_pagesAtHome_35 : decode cX3_pagesAtHome 35 = .ok (.if_icmp .ne 6, 3) := by decide +kernel
theorem dX3_pagesAtHome_38 : decode cX3_pagesAtHome 38 = .ok (.iinc 3 1, 3) := by decide +kernel
theorem dX3_pagesAtHome_41 : decode cX3_pagesAtHome 41 = .ok (.iinc 4 1, 3) := by decide +kernel
theorem dX3_pagesAtHome_44 : decode cX3_pagesAtHome 44 = .ok (.goto (-39), 3) := by decide +kernel
theorem dX3_pagesAtHome_47 : decode cX3_pagesAtHome 47 = .ok (.iload_n 3, 1) := by decide +kernel
theorem dX3_pagesAtHome_48 : decode cX3_pagesAtHome 48 = .ok (.ireturn, 1) := by decide +kernel
theorem dX3_sizeOf_0 : decode cX3_sizeOf 0 = .ok (.iload_n 1, 1) := by decide +kernel
theorem dX3_sizeOf_1 : decode cX3_sizeOf 1 = .ok (.invokestatic 81, 3) := by decide +kernel
theorem dX3_sizeOf_4 : decode cX3_sizeOf 4 = .ok (.ifCond .eq 12, 3) := by decide +kernel
theorem dX3_sizeOf_7 : decode cX3_sizeOf 7 = .ok (.aload_n 0, 1) := by decide +kernel
theorem dX3_sizeOf_8 : decode cX3_sizeOf 8 = .ok (.getfield 32, 3) := by decide +kernel
theorem dX3_sizeOf_11 : decode cX3_sizeOf 11 = .ok (.iload_n 1, 1) := by decide +kernel
theorem dX3_sizeOf_12 : decode cX3_sizeOf 12 = .ok (.iaload, 1) := by decide +kernel
theorem dX3_sizeOf_13 : decode cX3_sizeOf 13 = .ok (.goto 4, 3) := by decide +kernel
theorem dX3_sizeOf_16 : decode cX3_sizeOf 16 = .ok (.iconst 0, 1) := by decide +kernel
theorem dX3_sizeOf_17 : decode cX3_sizeOf 17 = .ok (.ireturn, 1) := by decide +kernel
theorem dX3_isPage_0 : decode cX3_isPage 0 = .ok (.iload_n 0, 1) := by decide +kernel
theorem dX3_isPage_1 : decode cX3_isPage 1 = .ok (.ifCond .lt 13, 3) := by decide +kernel
theorem dX3_isPage_4 : decode cX3_isPage 4 = .ok (.iload_n 0, 1) := by decide +kernel
theorem dX3_isPage_5 : decode cX3_isPage 5 = .ok (.bipush 30, 2) := by decide +kernel
theorem dX3_isPage_7 : decode cX3_isPage 7 = .ok (.if_icmp .ge 7, 3) := by decide +kernel
theorem dX3_isPage_10 : decode cX3_isPage 10 = .ok (.iconst 1, 1) := by decide +kernel
theorem dX3_isPage_11 : decode cX3_isPage 11 = .ok (.goto 4, 3) := by decide +kernel
theorem dX3_isPage_14 : decode cX3_isPage 14 = .ok (.iconst 0, 1) := by decide +kernel
theorem dX3_isPage_15 : decode cX3_isPage 15 = .ok (.ireturn, 1) := by decide +kernel
theorem dX4_init_0 : decode cX4_init 0 = .ok (.aload_n 0, 1) := by decide +kernel
theorem dX4_init_1 : decode cX4_init 1 = .ok (.invokespecial 3, 3) := by decide +kernel
theorem dX4_init_4 : decode cX4_init 4 = .ok (.aload_n 0, 1) := by decide +kernel
theorem dX4_init_5 : decode cX4_init 5 = .ok (.iconst 0, 1) := by decide +kernel
theorem dX4_init_6 : decode cX4_init 6 = .ok (.newarray .int, 2) := by decide +kernel
theorem dX4_init_8 : decode cX4_init 8 = .ok (.putfield 9, 3) := by decide +kernel
theorem dX4_init_11 : decode cX4_init 11 = .ok (.aload_n 0, 1) := by decide +kernel
theorem dX4_init_12 : decode cX4_init 12 = .ok (.new 15, 3) := by decide +kernel
theorem dX4_init_15 : decode cX4_init 15 = .ok (.dup, 1) := by decide +kernel
theorem dX4_init_16 : decode cX4_init 16 = .ok (.invokespecial 17, 3) := by decide +kernel
theorem dX4_init_19 : decode cX4_init 19 = .ok (.putfield 18, 3) := by decide +kernel
theorem dX4_init_22 : decode cX4_init 22 = .ok (.return_, 1) := by decide +kernel
theorem dX4_readScript_0 : decode cX4_readScript 0 = .ok (.aload_n 0, 1) := by decide +kernel
theorem dX4_readScript_1 : decode cX4_readScript 1 = .ok (.aload_n 1, 1) := by decide +kernel
theorem dX4_readScript_2 : decode cX4_readScript 2 = .ok (.putfield 9, 3) := by decide +kernel
theorem dX4_readScript_5 : decode cX4_readScript 5 = .ok (.aload_n 0, 1) := by decide +kernel
theorem dX4_readScript_6 : decode cX4_readScript 6 = .ok (.iload_n 2, 1) := by decide +kernel
theorem dX4_readScript_7 : decode cX4_readScript 7 = .ok (.aload_n 1, 1) := by decide +kernel
theorem dX4_readScript_8 : decode cX4_readScript 8 = .ok (.arraylength, 1) := by decide +kernel
theorem dX4_readScript_9 : decode cX4_readScript 9 = .ok (.invokestatic 22, 3) := by decide +kernel
theorem dX4_readScript_12 : decode cX4_readScript 12 = .ok (.putfield 28, 3) := by decide +kernel
theorem dX4_readScript_15 : decode cX4_readScript 15 = .ok (.aload_n 0, 1) := by decide +kernel
theorem dX4_readScript_16 : decode cX4_readScript 16 = .ok (.getfield 18, 3) := by decide +kernel
theorem dX4_readScript_19 : decode cX4_readScript 19 = .ok (.invokevirtual 32, 3) := by decide +kernel
theorem dX4_readScript_22 : decode cX4_readScript 22 = .ok (.aload_n 0, 1) := by decide +kernel
theorem dX4_readScript_23 : decode cX4_readScript 23 = .ok (.iconst 0, 1) := by decide +kernel
theorem dX4_readScript_24 : decode cX4_readScript 24 = .ok (.putfield 35, 3) := by decide +kernel
theorem dX4_readScript_27 : decode cX4_readScript 27 = .ok (.aload_n 0, 1) := by decide +kernel
theorem dX4_readScript_28 : decode cX4_readScript 28 = .ok (.iconst 0, 1) := by decide +kernel
theorem dX4_readScript_29 : decode cX4_readScript 29 = .ok (.putfield 38, 3) := by decide +kernel
theorem dX4_readScript_32 : decode cX4_readScript 32 = .ok (.aload_n 0, 1) := by decide +kernel
theorem dX4_readScript_33 : decode cX4_readScript 33 = .ok (.iconst 0, 1) := by decide +kernel
theorem dX4_readScript_34 : decode cX4_readScript 34 = .ok (.putfield 42, 3) := by decide +kernel
theorem dX4_readScript_37 : decode cX4_readScript 37 = .ok (.aload_n 0, 1) := by decide +kernel
theorem dX4_readScript_38 : decode cX4_readScript 38 = .ok (.invokevirtual 45, 3) := by decide +kernel
theorem dX4_readScript_41 : decode cX4_readScript 41 = .ok (.aload_n 0, 1) := by decide +kernel
theorem dX4_readScript_42 : decode cX4_readScript 42 = .ok (.invokevirtual 48, 3) := by decide +kernel
theorem dX4_readScript_45 : decode cX4_readScript 45 = .ok (.istore_n 3, 1) := by decide +kernel
theorem dX4_readScript_46 : decode cX4_readScript 46 = .ok (.iconst 1, 1) := by decide +kernel
theorem dX4_readScript_47 : decode cX4_readScript 47 = .ok (.istore 4, 2) := by decide +kernel
theorem dX4_readScript_49 : decode cX4_readScript 49 = .ok (.iload_n 3, 1) := by decide +kernel
theorem dX4_readScript_50 : decode cX4_readScript 50 = .ok (.ifCond .eq 34, 3) := by decide +kernel
theorem dX4_readScript_53 : decode cX4_readScript 53 = .ok (.aload_n 0, 1) := by decide +kernel
theorem dX4_readScript_54 : decode cX4_readScript 54 = .ok (.getfield 52, 3) := by decide +kernel
theorem dX4_readScript_57 : decode cX4_readScript 57 = .ok (.iconst 3, 1) := by decide +kernel
theorem dX4_readScript_58 : decode cX4_readScript 58 = .ok (.if_icmp .ne 26, 3) := by decide +kernel
theorem dX4_readScript_61 : decode cX4_readScript 61 = .ok (.iload 4, 2) := by decide +kernel
theorem dX4_readScript_63 : decode cX4_readScript 63 = .ok (.sipush 900, 3) := by decide +kernel
theorem dX4_readScript_66 : decode cX4_readScript 66 = .ok (.if_icmp .gt 18, 3) := by decide +kernel
theorem dX4_readScript_69 : decode cX4_readScript 69 = .ok (.aload_n 0, 1) := by decide +kernel
theorem dX4_readScript_70 : decode cX4_readScript 70 = .ok (.invokevirtual 45, 3) := by decide +kernel
theorem dX4_readScript_73 : decode cX4_readScript 73 = .ok (.aload_n 0, 1) := by decide +kernel
theorem dX4_readScript_74 : decode cX4_readScript 74 = .ok (.invokevirtual 48, 3) := by decide +kernel
theorem dX4_readScript_77 : decode cX4_readScript 77 = .ok (.istore_n 3, 1) := by decide +kernel
theorem dX4_readScript_78 : decode cX4_readScript 78 = .ok (.iinc 4 1, 3) := by decide +kernel
theorem dX4_readScript_81 : decode cX4_readScript 81 = .ok (.goto (-32), 3) := by decide +kernel
theorem dX4_readScript_84 : decode cX4_readScript 84 = .ok (.aload_n 0, 1) := by decide +kernel
theorem dX4_readScript_85 : decode cX4_readScript 85 = .ok (.getfield 42, 3) := by decide +kernel
theorem dX4_readScript_88 : decode cX4_readScript 88 = .ok (.ireturn, 1) := by decide +kernel
theorem dX4_trade_0 : decode cX4_trade 0 = .ok (.aload_n 0, 1) := by decide +kernel
theorem dX4_trade_1 : decode cX4_trade 1 = .ok (.getfield 18, 3) := by decide +kernel
theorem dX4_trade_4 : decode cX4_trade 4 = .ok (.astore_n 2, 1) := by decide +kernel
theorem dX4_trade_5 : decode cX4_trade 5 = .ok (.aload_n 0, 1) := by decide +kernel
theorem dX4_trade_6 : decode cX4_trade 6 = .ok (.aload_n 1, 1) := by decide +kernel
theorem dX4_trade_7 : decode cX4_trade 7 = .ok (.putfield 18, 3) := by decide +kernel
theorem dX4_trade_10 : decode cX4_trade 10 = .ok (.aload_n 2, 1) := by decide +kernel
theorem dX4_trade_11 : decode cX4_trade 11 = .ok (.areturn, 1) := by decide +kernel
theorem dX4_place_0 : decode cX4_place 0 = .ok (.aload_n 0, 1) := by decide +kernel
theorem dX4_place_1 : decode cX4_place 1 = .ok (.getfield 55, 3) := by decide +kernel
theorem dX4_place_4 : decode cX4_place 4 = .ok (.ireturn, 1) := by decide +kernel
theorem dX4_readLine_0 : decode cX4_readLine 0 = .ok (.aload_n 0, 1) := by decide +kernel
theorem dX4_readLine_1 : decode cX4_readLine 1 = .ok (.ldc 58, 2) := by decide +kernel
theorem dX4_readLine_3 : decode cX4_readLine 3 = .ok (.invokevirtual 60, 3) := by decide +kernel
theorem dX4_readLine_6 : decode cX4_readLine 6 = .ok (.ifCond .eq 23, 3) := by decide +kernel
theorem dX4_readLine_9 : decode cX4_readLine 9 = .ok (.aload_n 0, 1) := by decide +kernel
theorem dX4_readLine_10 : decode cX4_readLine 10 = .ok (.getfield 38, 3) := by decide +kernel
theorem dX4_readLine_13 : decode cX4_readLine 13 = .ok (.ifCond .eq 11, 3) := by decide +kernel
theorem dX4_readLine_16 : decode cX4_readLine 16 = .ok (.aload_n 0, 1) := by decide +kernel
theorem dX4_readLine_17 : decode cX4_readLine 17 = .ok (.iconst 3, 1) := by decide +kernel
theorem dX4_readLine_18 : decode cX4_readLine 18 = .ok (.invokevirtual 64, 3) := by decide +kernel
theorem dX4_readLine_21 : decode cX4_readLine 21 = .ok (.goto 7, 3) := by decide +kernel
theorem dX4_readLine_24 : decode cX4_readLine 24 = .ok (.aload_n 0, 1) := by decide +kernel
theorem dX4_readLine_25 : decode cX4_readLine 25 = .ok (.invokevirtual 68, 3) := by decide +kernel
theorem dX4_readLine_28 : decode cX4_readLine 28 = .ok (.ireturn, 1) := by decide +kernel
theorem dX4_readLine_29 : decode cX4_readLine 29 = .ok (.aload_n 0, 1) := by decide +kernel
theorem dX4_readLine_30 : decode cX4_readLine 30 = .ok (.ldc 71, 2) := by decide +kernel
theorem dX4_readLine_32 : decode cX4_readLine 32 = .ok (.invokevirtual 60, 3) := by decide +kernel
theorem dX4_readLine_35 : decode cX4_readLine 35 = .ok (.ifCond .eq 32, 3) := by decide +kernel
theorem dX4_readLine_38 : decode cX4_readLine 38 = .ok (.aload_n 0, 1) := by decide +kernel
theorem dX4_readLine_39 : decode cX4_readLine 39 = .ok (.aload_n 0, 1) := by decide +kernel
theorem dX4_readLine_40 : decode cX4_readLine 40 = .ok (.getfield 18, 3) := by decide +kernel
theorem dX4_readLine_43 : decode cX4_readLine 43 = .ok (.getfield 73, 3) := by decide +kernel
theorem dX4_readLine_46 : decode cX4_readLine 46 = .ok (.bipush 10, 2) := by decide +kernel
theorem dX4_readLine_48 : decode cX4_readLine 48 = .ok (.invokevirtual 76, 3) := by decide +kernel
theorem dX4_readLine_51 : decode cX4_readLine 51 = .ok (.ifCond .eq 14, 3) := by decide +kernel
theorem dX4_readLine_54 : decode cX4_readLine 54 = .ok (.aload_n 0, 1) := by decide +kernel
theorem dX4_readLine_55 : decode cX4_readLine 55 = .ok (.invokevirtual 80, 3) := by decide +kernel
theorem dX4_readLine_58 : decode cX4_readLine 58 = .ok (.ifCond .eq 7, 3) := by decide +kernel
theorem dX4_readLine_61 : decode cX4_readLine 61 = .ok (.iconst 1, 1) := by decide +kernel
theorem dX4_readLine_62 : decode cX4_readLine 62 = .ok (.goto 4, 3) := by decide +kernel
theorem dX4_readLine_65 : decode cX4_readLine 65 = .ok (.iconst 0, 1) := by decide +kernel
theorem dX4_readLine_66 : decode cX4_readLine 66 = .ok (.ireturn, 1) := by decide +kernel
theorem dX4_readLine_67 : decode cX4_readLine 67 = .ok (.aload_n 0, 1) := by decide +kernel
theorem dX4_readLine_68 : decode cX4_readLine 68 = .ok (.invokevirtual 83, 3) := by decide +kernel
theorem dX4_readLine_71 : decode cX4_readLine 71 = .ok (.istore_n 1, 1) := by decide +kernel
theorem dX4_readLine_72 : decode cX4_readLine 72 = .ok (.iload_n 1, 1) := by decide +kernel
theorem dX4_readLine_73 : decode cX4_readLine 73 = .ok (.ifCond .ge 9, 3) := by decide +kernel
theorem dX4_readLine_76 : decode cX4_readLine 76 = .ok (.aload_n 0, 1) := by decide +kernel
theorem dX4_readLine_77 : decode cX4_readLine 77 = .ok (.iconst 1, 1) := by decide +kernel
theorem dX4_readLine_78 : decode cX4_readLine 78 = .ok (.invokevirtual 64, 3) := by decide +kernel
theorem dX4_readLine_81 : decode cX4_readLine 81 = .ok (.ireturn, 1) := by decide +kernel
theorem dX4_readLine_82 : decode cX4_readLine 82 = .ok (.aload_n 0, 1) := by decide +kernel
theorem dX4_readLine_83 : decode cX4_readLine 83 = .ok (.aload_n 0, 1) := by decide +kernel
theorem dX4_readLine_84 : decode cX4_readLine 84 = .ok (.getfield 18, 3) := by decide +kernel
theorem dX4_readLine_87 : decode cX4_readLine 87 = .ok (.getfield 87, 3) := by decide +kernel
theorem dX4_readLine_90 : decode cX4_readLine 90 = .ok (.bipush 24, 2) := by decide +kernel
theorem dX4_readLine_92 : decode cX4_readLine 92 = .ok (.invokevirtual 76, 3) := by decide +kernel
theorem dX4_readLine_95 : decode cX4_readLine 95 = .ok (.ifCond .eq 15, 3) := by decide +kernel
theorem dX4_readLine_98 : decode cX4_readLine 98 = .ok (.aload_n 0, 1) := by decide +kernel
theorem dX4_readLine_99 : decode cX4_readLine 99 = .ok (.iload_n 1, 1) := by decide +kernel
theorem dX4_readLine_100 : decode cX4_readLine 100 = .ok (.invokevirtual 90, 3) := by decide +kernel
theorem dX4_readLine_103 : decode cX4_readLine 103 = .ok (.ifCond .eq 7, 3) := by decide +kernel
theorem dX4_readLine_106 : decode cX4_readLine 106 = .ok (.iconst 1, 1) := by decide +kernel
theorem dX4_readLine_107 : decode cX4_readLine 107 = .ok (.goto 4, 3) := by decide +kernel
theorem dX4_readLine_110 : decode cX4_readLine 110 = .ok (.iconst 0, 1) := by decide +kernel
theorem dX4_readLine_111 : decode cX4_readLine 111 = .ok (.ireturn, 1) := by decide +kernel
theorem dX4_mayCome_0 : decode cX4_mayCome 0 = .ok (.iload_n 1, 1) := by decide +kernel
theorem dX4_mayCome_1 : decode cX4_mayCome 1 = .ok (.iload_n 2, 1) := by decide +kernel
theorem dX4_mayCome_2 : decode cX4_mayCome 2 = .ok (.if_icmp .lt 9, 3) := by decide +kernel
theorem dX4_mayCome_5 : decode cX4_mayCome 5 = .ok (.aload_n 0, 1) := by decide +kernel
theorem dX4_mayCome_6 : decode cX4_mayCome 6 = .ok (.iconst 4, 1) := by decide +kernel
theorem dX4_mayCome_7 : decode cX4_mayCome 7 = .ok (.invokevirtual 64, 3) := by decide +kernel
theorem dX4_mayCome_10 : decode cX4_mayCome 10 = .ok (.ireturn, 1) := by decide +kernel
theorem dX4_mayCome_11 : decode cX4_mayCome 11 = .ok (.aload_n 0, 1) := by decide +kernel
theorem dX4_mayCome_12 : decode cX4_mayCome 12 = .ok (.getfield 38, 3) := by decide +kernel
theorem dX4_mayCome_15 : decode cX4_mayCome 15 = .ok (.ifCond .ne 11, 3) := by decide +kernel
theorem dX4_mayCome_18 : decode cX4_mayCome 18 = .ok (.aload_n 0, 1) := by decide +kernel
theorem dX4_mayCome_19 : decode cX4_mayCome 19 = .ok (.iconst 5, 1) := by decide +kernel
theorem dX4_mayCome_20 : decode cX4_mayCome 20 = .ok (.invokevirtual 64, 3) := by decide +kernel
theorem dX4_mayCome_23 : decode cX4_mayCome 23 = .ok (.ifCond .eq 7, 3) := by decide +kernel
theorem dX4_mayCome_26 : decode cX4_mayCome 26 = .ok (.iconst 1, 1) := by decide +kernel
theorem dX4_mayCome_27 : decode cX4_mayCome 27 = .ok (.goto 4, 3) := by decide +kernel
theorem dX4_mayCome_30 : decode cX4_mayCome 30 = .ok (.iconst 0, 1) := by decide +kernel
theorem dX4_mayCome_31 : decode cX4_mayCome 31 = .ok (.ireturn, 1) := by decide +kernel
theorem dX4_opOfWord_0 : decode cX4_opOfWord 0 = .ok (.aload_n 0, 1) := by decide +kernel
theorem dX4_opOfWord_1 : decode cX4_opOfWord 1 = .ok (.ldc 93, 2) := by decide +kernel
theorem dX4_opOfWord_3 : decode cX4_opOfWord 3 = .ok (.invokevirtual 60, 3) := by decide +kernel
theorem dX4_opOfWord_6 : decode cX4_opOfWord 6 = .ok (.ifCond .eq 5, 3) := by decide +kernel
theorem dX4_opOfWord_9 : decode cX4_opOfWord 9 = .ok (.iconst 0, 1) := by decide +kernel
theorem dX4_opOfWord_10 : decode cX4_opOfWord 10 = .ok (.ireturn, 1) := by decide +kernel
theorem dX4_opOfWord_11 : decode cX4_opOfWord 11 = .ok (.aload_n 0, 1) := by decide +kernel
theorem dX4_opOfWord_12 : decode cX4_opOfWord 12 = .ok (.ldc 95, 2) := by decide +kernel
theorem dX4_opOfWord_14 : decode cX4_opOfWord 14 = .ok (.invokevirtual 60, 3) := by decide +kernel
theorem dX4_opOfWord_17 : decode cX4_opOfWord 17 = .ok (.ifCond .eq 5, 3) := by decide +kernel
theorem dX4_opOfWord_20 : decode cX4_opOfWord 20 = .ok (.iconst 1, 1) := by decide +kernel
theorem dX4_opOfWord_21 : decode cX4_opOfWord 21 = .ok (.ireturn, 1) := by decide +kernel
theorem dX4_opOfWord_22 : decode cX4_opOfWord 22 = .ok (.aload_n 0, 1) := by decide +kernel
theorem dX4_opOfWord_23 : decode cX4_opOfWord 23 = .ok (.ldc 97, 2) := by decide +kernel
theorem dX4_opOfWord_25 : decode cX4_opOfWord 25 = .ok (.invokevirtual 60, 3) := by decide +kernel
theorem dX4_opOfWord_28 : decode cX4_opOfWord 28 = .ok (.ifCond .eq 7, 3) := by decide +kernel
theorem dX4_opOfWord_31 : decode cX4_opOfWord 31 = .ok (.iconst 2, 1) := by decide +kernel
theorem dX4_opOfWord_32 : decode cX4_opOfWord 32 = .ok (.goto 4, 3) := by decide +kernel
theorem dX4_opOfWord_35 : decode cX4_opOfWord 35 = .ok (.iconst (-1), 1) := by decide +kernel
theorem dX4_opOfWord_36 : decode cX4_opOfWord 36 = .ok (.ireturn, 1) := by decide +kernel
theorem dX4_readSettings_0 : decode cX4_readSettings 0 = .ok (.aload_n 0, 1) := by decide +kernel
theorem dX4_readSettings_1 : decode cX4_readSettings 1 = .ok (.invokevirtual 45, 3) := by decide +kernel
theorem dX4_readSettings_4 : decode cX4_readSettings 4 = .ok (.aload_n 0, 1) := by decide +kernel
theorem dX4_readSettings_5 : decode cX4_readSettings 5 = .ok (.ldc 99, 2) := by decide +kernel
theorem dX4_readSettings_7 : decode cX4_readSettings 7 = .ok (.invokevirtual 101, 3) := by decide +kernel
theorem dX4_readSettings_10 : decode cX4_readSettings 10 = .ok (.ifCond .eq 13, 3) := by decide +kernel
theorem dX4_readSettings_13 : decode cX4_readSettings 13 = .ok (.aload_n 0, 1) := by decide +kernel
theorem dX4_readSettings_14 : decode cX4_readSettings 14 = .ok (.iconst 1, 1) := by decide +kernel
theorem dX4_readSettings_15 : decode cX4_readSettings 15 = .ok (.bipush 24, 2) := by decide +kernel
theorem dX4_readSettings_17 : decode cX4_readSettings 17 = .ok (.invokevirtual 104, 3) := by decide +kernel
theorem dX4_readSettings_20 : decode cX4_readSettings 20 = .ok (.goto 4, 3) := by decide +kernel
theorem dX4_readSettings_23 : decode cX4_readSettings 23 = .ok (.iconst (-1), 1) := by decide +kernel
theorem dX4_readSettings_24 : decode cX4_readSettings 24 = .ok (.istore_n 1, 1) := by decide +kernel
theorem dX4_readSettings_25 : decode cX4_readSettings 25 = .ok (.iload_n 1, 1) := by decide +kernel
theorem dX4_readSettings_26 : decode cX4_readSettings 26 = .ok (.ifCond .ge 5, 3) := by decide +kernel
theorem dX4_readSettings_29 : decode cX4_readSettings 29 = .ok (.iconst 0, 1) := by decide +kernel
theorem dX4_readSettings_30 : decode cX4_readSettings 30 = .ok (.ireturn, 1) := by decide +kernel
theorem dX4_readSettings_31 : decode cX4_readSettings 31 = .ok (.aload_n 0, 1) := by decide +kernel
theorem dX4_readSettings_32 : decode cX4_readSettings 32 = .ok (.ldc 107, 2) := by decide +kernel
theorem dX4_readSettings_34 : decode cX4_readSettings 34 = .ok (.invokevirtual 101, 3) := by decide +kernel
theorem dX4_readSettings_37 : decode cX4_readSettings 37 = .ok (.ifCond .eq 12, 3) := by decide +kernel
theorem dX4_readSettings_40 : decode cX4_readSettings 40 = .ok (.aload_n 0, 1) := by decide +kernel
theorem dX4_readSettings_41 : decode cX4_readSettings 41 = .ok (.iconst 1, 1) := by decide +kernel
theorem dX4_readSettings_42 : decode cX4_readSettings 42 = .ok (.iconst 4, 1) := by decide +kernel
