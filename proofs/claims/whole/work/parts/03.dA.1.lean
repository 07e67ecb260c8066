theorem dX4_readSettings_43 : decode cX4_readSettings 43 = .ok (.invokevirtual 104, 3) := by decide +kernel
theorem dX4_readSettings_46 : decode cX4_readSettings 46 = .ok (.goto 4, 3) := by decide +kernel
theorem dX4_readSettings_49 : decode cX4_readSettings 49 = .ok (.iconst (-1), 1) := by decide +kernel
theorem dX4_readSettings_50 : decode cX4_readSettings 50 = .ok (.istore_n 2, 1) := by decide +kernel
theorem dX4_readSettings_51 : decode cX4_readSettings 51 = .ok (.iload_n 2, 1) := by decide +kernel
theorem dX4_readSettings_52 : decode cX4_readSettings 52 = .ok (.ifCond .ge 5, 3) := by decide +kernel
theorem dX4_readSettings_55 : decode cX4_readSettings 55 = .ok (.iconst 0, 1) := by decide +kernel
theorem dX4_readSettings_56 : decode cX4_readSettings 56 = .ok (.ireturn, 1) := by decide +kernel
theorem dX4_readSettings_57 : decode cX4_readSettings 57 = .ok (.aload_n 0, 1) := by decide +kernel
theorem dX4_readSettings_58 : decode cX4_readSettings 58 = .ok (.ldc 109, 2) := by decide +kernel
theorem dX4_readSettings_60 : decode cX4_readSettings 60 = .ok (.invokevirtual 101, 3) := by decide +kernel
theorem dX4_readSettings_63 : decode cX4_readSettings 63 = .ok (.ifCond .eq 13, 3) := by decide +kernel
theorem dX4_readSettings_66 : decode cX4_readSettings 66 = .ok (.aload_n 0, 1) := by decide +kernel
theorem dX4_readSettings_67 : decode cX4_readSettings 67 = .ok (.iconst 4, 1) := by decide +kernel
theorem dX4_readSettings_68 : decode cX4_readSettings 68 = .ok (.bipush 15, 2) := by decide +kernel
theorem dX4_readSettings_70 : decode cX4_readSettings 70 = .ok (.invokevirtual 104, 3) := by decide +kernel
theorem dX4_readSettings_73 : decode cX4_readSettings 73 = .ok (.goto 4, 3) := by decide +kernel
theorem dX4_readSettings_76 : decode cX4_readSettings 76 = .ok (.iconst (-1), 1) := by decide +kernel
theorem dX4_readSettings_77 : decode cX4_readSettings 77 = .ok (.istore_n 3, 1) := by decide +kernel
theorem dX4_readSettings_78 : decode cX4_readSettings 78 = .ok (.iload_n 3, 1) := by decide +kernel
theorem dX4_readSettings_79 : decode cX4_readSettings 79 = .ok (.ifCond .ge 5, 3) := by decide +kernel
theorem dX4_readSettings_82 : decode cX4_readSettings 82 = .ok (.iconst 0, 1) := by decide +kernel
theorem dX4_readSettings_83 : decode cX4_readSettings 83 = .ok (.ireturn, 1) := by decide +kernel
theorem dX4_readSettings_84 : decode cX4_readSettings 84 = .ok (.aload_n 0, 1) := by decide +kernel
theorem dX4_readSettings_85 : decode cX4_readSettings 85 = .ok (.getfield 18, 3) := by decide +kernel
theorem dX4_readSettings_88 : decode cX4_readSettings 88 = .ok (.iload_n 1, 1) := by decide +kernel
theorem dX4_readSettings_89 : decode cX4_readSettings 89 = .ok (.putfield 111, 3) := by decide +kernel
theorem dX4_readSettings_92 : decode cX4_readSettings 92 = .ok (.aload_n 0, 1) := by decide +kernel
theorem dX4_readSettings_93 : decode cX4_readSettings 93 = .ok (.getfield 18, 3) := by decide +kernel
theorem dX4_readSettings_96 : decode cX4_readSettings 96 = .ok (.iload_n 2, 1) := by decide +kernel
theorem dX4_readSettings_97 : decode cX4_readSettings 97 = .ok (.putfield 114, 3) := by decide +kernel
theorem dX4_readSettings_100 : decode cX4_readSettings 100 = .ok (.aload_n 0, 1) := by decide +kernel
theorem dX4_readSettings_101 : decode cX4_readSettings 101 = .ok (.getfield 18, 3) := by decide +kernel
theorem dX4_readSettings_104 : decode cX4_readSettings 104 = .ok (.iload_n 3, 1) := by decide +kernel
theorem dX4_readSettings_105 : decode cX4_readSettings 105 = .ok (.putfield 117, 3) := by decide +kernel
theorem dX4_readSettings_108 : decode cX4_readSettings 108 = .ok (.aload_n 0, 1) := by decide +kernel
theorem dX4_readSettings_109 : decode cX4_readSettings 109 = .ok (.iconst 1, 1) := by decide +kernel
theorem dX4_readSettings_110 : decode cX4_readSettings 110 = .ok (.putfield 38, 3) := by decide +kernel
theorem dX4_readSettings_113 : decode cX4_readSettings 113 = .ok (.aload_n 0, 1) := by decide +kernel
theorem dX4_readSettings_114 : decode cX4_readSettings 114 = .ok (.invokevirtual 120, 3) := by decide +kernel
theorem dX4_readSettings_117 : decode cX4_readSettings 117 = .ok (.ifCond .ne 11, 3) := by decide +kernel
theorem dX4_readSettings_120 : decode cX4_readSettings 120 = .ok (.aload_n 0, 1) := by decide +kernel
theorem dX4_readSettings_121 : decode cX4_readSettings 121 = .ok (.iconst 1, 1) := by decide +kernel
theorem dX4_readSettings_122 : decode cX4_readSettings 122 = .ok (.invokevirtual 64, 3) := by decide +kernel
theorem dX4_readSettings_125 : decode cX4_readSettings 125 = .ok (.ifCond .eq 7, 3) := by decide +kernel
theorem dX4_readSettings_128 : decode cX4_readSettings 128 = .ok (.iconst 1, 1) := by decide +kernel
theorem dX4_readSettings_129 : decode cX4_readSettings 129 = .ok (.goto 4, 3) := by decide +kernel
theorem dX4_readSettings_132 : decode cX4_readSettings 132 = .ok (.iconst 0, 1) := by decide +kernel
theorem dX4_readSettings_133 : decode cX4_readSettings 133 = .ok (.ireturn, 1) := by decide +kernel
theorem dX4_readOp_0 : decode cX4_readOp 0 = .ok (.aload_n 0, 1) := by decide +kernel
theorem dX4_readOp_1 : decode cX4_readOp 1 = .ok (.invokevirtual 45, 3) := by decide +kernel
theorem dX4_readOp_4 : decode cX4_readOp 4 = .ok (.aload_n 0, 1) := by decide +kernel
theorem dX4_readOp_5 : decode cX4_readOp 5 = .ok (.iconst 0, 1) := by decide +kernel
theorem dX4_readOp_6 : decode cX4_readOp 6 = .ok (.bipush 29, 2) := by decide +kernel
theorem dX4_readOp_8 : decode cX4_readOp 8 = .ok (.invokevirtual 104, 3) := by decide +kernel
theorem dX4_readOp_11 : decode cX4_readOp 11 = .ok (.istore_n 2, 1) := by decide +kernel
theorem dX4_readOp_12 : decode cX4_readOp 12 = .ok (.iload_n 2, 1) := by decide +kernel
theorem dX4_readOp_13 : decode cX4_readOp 13 = .ok (.ifCond .ge 5, 3) := by decide +kernel
theorem dX4_readOp_16 : decode cX4_readOp 16 = .ok (.iconst 0, 1) := by decide +kernel
theorem dX4_readOp_17 : decode cX4_readOp 17 = .ok (.ireturn, 1) := by decide +kernel
theorem dX4_readOp_18 : decode cX4_readOp 18 = .ok (.bipush (-2), 2) := by decide +kernel
theorem dX4_readOp_20 : decode cX4_readOp 20 = .ok (.istore_n 3, 1) := by decide +kernel
theorem dX4_readOp_21 : decode cX4_readOp 21 = .ok (.iload_n 1, 1) := by decide +kernel
theorem dX4_readOp_22 : decode cX4_readOp 22 = .ok (.ifCond .ne 24, 3) := by decide +kernel
theorem dX4_readOp_25 : decode cX4_readOp 25 = .ok (.aload_n 0, 1) := by decide +kernel
theorem dX4_readOp_26 : decode cX4_readOp 26 = .ok (.iconst 0, 1) := by decide +kernel
theorem dX4_readOp_27 : decode cX4_readOp 27 = .ok (.aload_n 0, 1) := by decide +kernel
theorem dX4_readOp_28 : decode cX4_readOp 28 = .ok (.getfield 18, 3) := by decide +kernel
theorem dX4_readOp_31 : decode cX4_readOp 31 = .ok (.getfield 73, 3) := by decide +kernel
theorem dX4_readOp_34 : decode cX4_readOp 34 = .ok (.iconst 1, 1) := by decide +kernel
theorem dX4_readOp_35 : decode cX4_readOp 35 = .ok (.isub, 1) := by decide +kernel
theorem dX4_readOp_36 : decode cX4_readOp 36 = .ok (.invokevirtual 104, 3) := by decide +kernel
theorem dX4_readOp_39 : decode cX4_readOp 39 = .ok (.istore_n 3, 1) := by decide +kernel
theorem dX4_readOp_40 : decode cX4_readOp 40 = .ok (.iload_n 3, 1) := by decide +kernel
theorem dX4_readOp_41 : decode cX4_readOp 41 = .ok (.ifCond .ge 5, 3) := by decide +kernel
theorem dX4_readOp_44 : decode cX4_readOp 44 = .ok (.iconst 0, 1) := by decide +kernel
theorem dX4_readOp_45 : decode cX4_readOp 45 = .ok (.ireturn, 1) := by decide +kernel
theorem dX4_readOp_46 : decode cX4_readOp 46 = .ok (.aload_n 0, 1) := by decide +kernel
theorem dX4_readOp_47 : decode cX4_readOp 47 = .ok (.invokevirtual 120, 3) := by decide +kernel
theorem dX4_readOp_50 : decode cX4_readOp 50 = .ok (.ifCond .ne 9, 3) := by decide +kernel
theorem dX4_readOp_53 : decode cX4_readOp 53 = .ok (.aload_n 0, 1) := by decide +kernel
theorem dX4_readOp_54 : decode cX4_readOp 54 = .ok (.iconst 1, 1) := by decide +kernel
theorem dX4_readOp_55 : decode cX4_readOp 55 = .ok (.invokevirtual 64, 3) := by decide +kernel
theorem dX4_readOp_58 : decode cX4_readOp 58 = .ok (.ireturn, 1) := by decide +kernel
theorem dX4_readOp_59 : decode cX4_readOp 59 = .ok (.aload_n 0, 1) := by decide +kernel
theorem dX4_readOp_60 : decode cX4_readOp 60 = .ok (.getfield 18, 3) := by decide +kernel
theorem dX4_readOp_63 : decode cX4_readOp 63 = .ok (.iload_n 1, 1) := by decide +kernel
theorem dX4_readOp_64 : decode cX4_readOp 64 = .ok (.iload_n 2, 1) := by decide +kernel
theorem dX4_readOp_65 : decode cX4_readOp 65 = .ok (.iload_n 3, 1) := by decide +kernel
theorem dX4_readOp_66 : decode cX4_readOp 66 = .ok (.invokevirtual 123, 3) := by decide +kernel
theorem dX4_readOp_69 : decode cX4_readOp 69 = .ok (.iconst 1, 1) := by decide +kernel
theorem dX4_readOp_70 : decode cX4_readOp 70 = .ok (.ireturn, 1) := by decide +kernel
theorem dX4_readData_0 : decode cX4_readData 0 = .ok (.aload_n 0, 1) := by decide +kernel
theorem dX4_readData_1 : decode cX4_readData 1 = .ok (.invokevirtual 45, 3) := by decide +kernel
theorem dX4_readData_4 : decode cX4_readData 4 = .ok (.aload_n 0, 1) := by decide +kernel
theorem dX4_readData_5 : decode cX4_readData 5 = .ok (.iconst 0, 1) := by decide +kernel
theorem dX4_readData_6 : decode cX4_readData 6 = .ok (.invokevirtual 127, 3) := by decide +kernel
theorem dX4_readData_9 : decode cX4_readData 9 = .ok (.istore_n 1, 1) := by decide +kernel
theorem dX4_readData_10 : decode cX4_readData 10 = .ok (.iconst 0, 1) := by decide +kernel
theorem dX4_readData_11 : decode cX4_readData 11 = .ok (.istore_n 2, 1) := by decide +kernel
theorem dX4_readData_12 : decode cX4_readData 12 = .ok (.iload_n 1, 1) := by decide +kernel
theorem dX4_readData_13 : decode cX4_readData 13 = .ok (.ifCond .le 33, 3) := by decide +kernel
theorem dX4_readData_16 : decode cX4_readData 16 = .ok (.aload_n 0, 1) := by decide +kernel
theorem dX4_readData_17 : decode cX4_readData 17 = .ok (.getfield 52, 3) := by decide +kernel
theorem dX4_readData_20 : decode cX4_readData 20 = .ok (.iconst 4, 1) := by decide +kernel
theorem dX4_readData_21 : decode cX4_readData 21 = .ok (.if_icmp .ne 25, 3) := by decide +kernel
theorem dX4_readData_24 : decode cX4_readData 24 = .ok (.iload_n 2, 1) := by decide +kernel
theorem dX4_readData_25 : decode cX4_readData 25 = .ok (.bipush 16, 2) := by decide +kernel
theorem dX4_readData_27 : decode cX4_readData 27 = .ok (.if_icmp .gt 19, 3) := by decide +kernel
theorem dX4_readData_30 : decode cX4_readData 30 = .ok (.aload_n 0, 1) := by decide +kernel
theorem dX4_readData_31 : decode cX4_readData 31 = .ok (.invokevirtual 45, 3) := by decide +kernel
theorem dX4_readData_34 : decode cX4_readData 34 = .ok (.aload_n 0, 1) := by decide +kernel
theorem dX4_readData_35 : decode cX4_readData 35 = .ok (.iload_n 1, 1) := by decide +kernel
theorem dX4_readData_36 : decode cX4_readData 36 = .ok (.invokevirtual 127, 3) := by decide +kernel
theorem dX4_readData_39 : decode cX4_readData 39 = .ok (.istore_n 1, 1) := by decide +kernel
theorem dX4_readData_40 : decode cX4_readData 40 = .ok (.iinc 2 1, 3) := by decide +kernel
theorem dX4_readData_43 : decode cX4_readData 43 = .ok (.goto (-31), 3) := by decide +kernel
theorem dX4_readData_46 : decode cX4_readData 46 = .ok (.iload_n 1, 1) := by decide +kernel
theorem dX4_readData_47 : decode cX4_readData 47 = .ok (.ifCond .gt 5, 3) := by decide +kernel
theorem dX4_readData_50 : decode cX4_readData 50 = .ok (.iconst 0, 1) := by decide +kernel
theorem dX4_readData_51 : decode cX4_readData 51 = .ok (.ireturn, 1) := by decide +kernel
theorem dX4_readData_52 : decode cX4_readData 52 = .ok (.aload_n 0, 1) := by decide +kernel
theorem dX4_readData_53 : decode cX4_readData 53 = .ok (.invokevirtual 120, 3) := by decide +kernel
theorem dX4_readData_56 : decode cX4_readData 56 = .ok (.ifCond .ne 9, 3) := by decide +kernel
theorem dX4_readData_59 : decode cX4_readData 59 = .ok (.aload_n 0, 1) := by decide +kernel
theorem dX4_readData_60 : decode cX4_readData 60 = .ok (.iconst 1, 1) := by decide +kernel
theorem dX4_readData_61 : decode cX4_readData 61 = .ok (.invokevirtual 64, 3) := by decide +kernel
theorem dX4_readData_64 : decode cX4_readData 64 = .ok (.ireturn, 1) := by decide +kernel
theorem dX4_readData_65 : decode cX4_readData 65 = .ok (.iload_n 1, 1) := by decide +kernel
theorem dX4_readData_66 : decode cX4_readData 66 = .ok (.bipush 16, 2) := by decide +kernel
theorem dX4_readData_68 : decode cX4_readData 68 = .ok (.if_icmp .ge 10, 3) := by decide +kernel
theorem dX4_readData_71 : decode cX4_readData 71 = .ok (.aload_n 0, 1) := by decide +kernel
theorem dX4_readData_72 : decode cX4_readData 72 = .ok (.bipush 6, 2) := by decide +kernel
theorem dX4_readData_74 : decode cX4_readData 74 = .ok (.invokevirtual 64, 3) := by decide +kernel
theorem dX4_readData_77 : decode cX4_readData 77 = .ok (.ireturn, 1) := by decide +kernel
theorem dX4_readData_78 : decode cX4_readData 78 = .ok (.aload_n 0, 1) := by decide +kernel
theorem dX4_readData_79 : decode cX4_readData 79 = .ok (.getfield 18, 3) := by decide +kernel
theorem dX4_readData_82 : decode cX4_readData 82 = .ok (.dup, 1) := by decide +kernel
theorem dX4_readData_83 : decode cX4_readData 83 = .ok (.getfield 73, 3) := by decide +kernel
theorem dX4_readData_86 : decode cX4_readData 86 = .ok (.iconst 1, 1) := by decide +kernel
theorem dX4_readData_87 : decode cX4_readData 87 = .ok (.iadd, 1) := by decide +kernel
theorem dX4_readData_88 : decode cX4_readData 88 = .ok (.putfield 73, 3) := by decide +kernel
theorem dX4_readData_91 : decode cX4_readData 91 = .ok (.iconst 1, 1) := by decide +kernel
theorem dX4_readData_92 : decode cX4_readData 92 = .ok (.ireturn, 1) := by decide +kernel
theorem dX4_readCells_0 : decode cX4_readCells 0 = .ok (.aload_n 0, 1) := by decide +kernel
theorem dX4_readCells_1 : decode cX4_readCells 1 = .ok (.getfield 131, 3) := by decide +kernel
theorem dX4_readCells_4 : decode cX4_readCells 4 = .ok (.istore_n 2, 1) := by decide +kernel
theorem dX4_readCells_5 : decode cX4_readCells 5 = .ok (.aload_n 0, 1) := by decide +kernel
theorem dX4_readCells_6 : decode cX4_readCells 6 = .ok (.iconst 0, 1) := by decide +kernel
theorem dX4_readCells_7 : decode cX4_readCells 7 = .ok (.bipush 99, 2) := by decide +kernel
theorem dX4_readCells_9 : decode cX4_readCells 9 = .ok (.invokevirtual 104, 3) := by decide +kernel
theorem dX4_readCells_12 : decode cX4_readCells 12 = .ok (.istore_n 3, 1) := by decide +kernel
theorem dX4_readCells_13 : decode cX4_readCells 13 = .ok (.iload_n 3, 1) := by decide +kernel
theorem dX4_readCells_14 : decode cX4_readCells 14 = .ok (.ifCond .ge 5, 3) := by decide +kernel
theorem dX4_readCells_17 : decode cX4_readCells 17 = .ok (.iconst 0, 1) := by decide +kernel
theorem dX4_readCells_18 : decode cX4_readCells 18 = .ok (.ireturn, 1) := by decide +kernel
theorem dX4_readCells_19 : decode cX4_readCells 19 = .ok (.iload_n 1, 1) := by decide +kernel
theorem dX4_readCells_20 : decode cX4_readCells 20 = .ok (.bipush 16, 2) := by decide +kernel
theorem dX4_readCells_22 : decode cX4_readCells 22 = .ok (.if_icmp .lt 9, 3) := by decide +kernel
theorem dX4_readCells_25 : decode cX4_readCells 25 = .ok (.aload_n 0, 1) := by decide +kernel
theorem dX4_readCells_26 : decode cX4_readCells 26 = .ok (.iload_n 2, 1) := by decide +kernel
theorem dX4_readCells_27 : decode cX4_readCells 27 = .ok (.invokevirtual 134, 3) := by decide +kernel
theorem dX4_readCells_30 : decode cX4_readCells 30 = .ok (.ireturn, 1) := by decide +kernel
theorem dX4_readCells_31 : decode cX4_readCells 31 = .ok (.iconst 1, 1) := by decide +kernel
theorem dX4_readCells_32 : decode cX4_readCells 32 = .ok (.istore 4, 2) := by decide +kernel
theorem dX4_readCells_34 : decode cX4_readCells 34 = .ok (.aload_n 0, 1) := by decide +kernel
theorem dX4_readCells_35 : decode cX4_readCells 35 = .ok (.ldc 137, 2) := by decide +kernel
theorem dX4_readCells_37 : decode cX4_readCells 37 = .ok (.invokevirtual 60, 3) := by decide +kernel
theorem dX4_readCells_40 : decode cX4_readCells 40 = .ok (.ifCond .eq 28, 3) := by decide +kernel
theorem dX4_readCells_43 : decode cX4_readCells 43 = .ok (.aload_n 0, 1) := by decide +kernel
theorem dX4_readCells_44 : decode cX4_readCells 44 = .ok (.invokevirtual 45, 3) := by decide +kernel
theorem dX4_readCells_47 : decode cX4_readCells 47 = .ok (.aload_n 0, 1) := by decide +kernel
theorem dX4_readCells_48 : decode cX4_readCells 48 = .ok (.getfield 131, 3) := by decide +kernel
theorem dX4_readCells_51 : decode cX4_readCells 51 = .ok (.istore_n 2, 1) := by decide +kernel
theorem dX4_readCells_52 : decode cX4_readCells 52 = .ok (.aload_n 0, 1) := by decide +kernel
theorem dX4_readCells_53 : decode cX4_readCells 53 = .ok (.iconst 1, 1) := by decide +kernel
theorem dX4_readCells_54 : decode cX4_readCells 54 = .ok (.bipush 16, 2) := by decide +kernel
theorem dX4_readCells_56 : decode cX4_readCells 56 = .ok (.invokevirtual 104, 3) := by decide +kernel
theorem dX4_readCells_59 : decode cX4_readCells 59 = .ok (.istore 4, 2) := by decide +kernel
theorem dX4_readCells_61 : decode cX4_readCells 61 = .ok (.iload 4, 2) := by decide +kernel
theorem dX4_readCells_63 : decode cX4_readCells 63 = .ok (.ifCond .ge 5, 3) := by decide +kernel
theorem dX4_readCells_66 : decode cX4_readCells 66 = .ok (.iconst 0, 1) := by decide +kernel
theorem dX4_readCells_67 : decode cX4_readCells 67 = .ok (.ireturn, 1) := by decide +kernel
theorem dX4_readCells_68 : decode cX4_readCells 68 = .ok (.iload_n 1, 1) := by decide +kernel
theorem dX4_readCells_69 : decode cX4_readCells 69 = .ok (.iload 4, 2) := by decide +kernel
theorem dX4_readCells_71 : decode cX4_readCells 71 = .ok (.iadd, 1) := by decide +kernel
theorem dX4_readCells_72 : decode cX4_readCells 72 = .ok (.bipush 16, 2) := by decide +kernel
theorem dX4_readCells_74 : decode cX4_readCells 74 = .ok (.if_icmp .le 9, 3) := by decide +kernel
theorem dX4_readCells_77 : decode cX4_readCells 77 = .ok (.aload_n 0, 1) := by decide +kernel
theorem dX4_readCells_78 : decode cX4_readCells 78 = .ok (.iload_n 2, 1) := by decide +kernel
theorem dX4_readCells_79 : decode cX4_readCells 79 = .ok (.invokevirtual 134, 3) := by decide +kernel
theorem dX4_readCells_82 : decode cX4_readCells 82 = .ok (.ireturn, 1) := by decide +kernel
theorem dX4_readCells_83 : decode cX4_readCells 83 = .ok (.aload_n 0, 1) := by decide +kernel
theorem dX4_readCells_84 : decode cX4_readCells 84 = .ok (.getfield 18, 3) := by decide +kernel
theorem dX4_readCells_87 : decode cX4_readCells 87 = .ok (.iload_n 3, 1) := by decide +kernel
theorem dX4_readCells_88 : decode cX4_readCells 88 = .ok (.iload_n 1, 1) := by decide +kernel
theorem dX4_readCells_89 : decode cX4_readCells 89 = .ok (.iload 4, 2) := by decide +kernel
theorem dX4_readCells_91 : decode cX4_readCells 91 = .ok (.invokevirtual 139, 3) := by decide +kernel
theorem dX4_readCells_94 : decode cX4_readCells 94 = .ok (.iload_n 1, 1) := by decide +kernel
theorem dX4_readCells_95 : decode cX4_readCells 95 = .ok (.iload 4, 2) := by decide +kernel
theorem dX4_readCells_97 : decode cX4_readCells 97 = .ok (.iadd, 1) := by decide +kernel
theorem dX4_readCells_98 : decode cX4_readCells 98 = .ok (.ireturn, 1) := by decide +kernel
theorem dX4_tooMany_0 : decode cX4_tooMany 0 = .ok (.aload_n 0, 1) := by decide +kernel
theorem dX4_tooMany_1 : decode cX4_tooMany 1 = .ok (.bipush 6, 2) := by decide +kernel
theorem dX4_tooMany_3 : decode cX4_tooMany 3 = .ok (.putfield 42, 3) := by decide +kernel
theorem dX4_tooMany_6 : decode cX4_tooMany 6 = .ok (.aload_n 0, 1) := by decide +kernel
theorem dX4_tooMany_7 : decode cX4_tooMany 7 = .ok (.iload_n 1, 1) := by decide +kernel
theorem dX4_tooMany_8 : decode cX4_tooMany 8 = .ok (.putfield 55, 3) := by decide +kernel
theorem dX4_tooMany_11 : decode cX4_tooMany 11 = .ok (.iconst 0, 1) := by decide +kernel
theorem dX4_tooMany_12 : decode cX4_tooMany 12 = .ok (.ireturn, 1) := by decide +kernel
theorem dX4_takeWord_0 : decode cX4_takeWord 0 = .ok (.aload_n 0, 1) := by decide +kernel
theorem dX4_takeWord_1 : decode cX4_takeWord 1 = .ok (.aload_n 1, 1) := by decide +kernel
theorem dX4_takeWord_2 : decode cX4_takeWord 2 = .ok (.invokevirtual 60, 3) := by decide +kernel
theorem dX4_takeWord_5 : decode cX4_takeWord 5 = .ok (.ifCond .ne 9, 3) := by decide +kernel
theorem dX4_takeWord_8 : decode cX4_takeWord 8 = .ok (.aload_n 0, 1) := by decide +kernel
theorem dX4_takeWord_9 : decode cX4_takeWord 9 = .ok (.iconst 1, 1) := by decide +kernel
theorem dX4_takeWord_10 : decode cX4_takeWord 10 = .ok (.invokevirtual 64, 3) := by decide +kernel
theorem dX4_takeWord_13 : decode cX4_takeWord 13 = .ok (.ireturn, 1) := by decide +kernel
theorem dX4_takeWord_14 : decode cX4_takeWord 14 = .ok (.aload_n 0, 1) := by decide +kernel
theorem dX4_takeWord_15 : decode cX4_takeWord 15 = .ok (.invokevirtual 45, 3) := by decide +kernel
theorem dX4_takeWord_18 : decode cX4_takeWord 18 = .ok (.iconst 1, 1) := by decide +kernel
theorem dX4_takeWord_19 : decode cX4_takeWord 19 = .ok (.ireturn, 1) := by decide +kernel
theorem dX4_takeWhole_0 : decode cX4_takeWhole 0 = .ok (.aload_n 0, 1) := by decide +kernel
theorem dX4_takeWhole_1 : decode cX4_takeWhole 1 = .ok (.getfield 52, 3) := by decide +kernel
theorem dX4_takeWhole_4 : decode cX4_takeWhole 4 = .ok (.iconst 2, 1) := by decide +kernel
theorem dX4_takeWhole_5 : decode cX4_takeWhole 5 = .ok (.if_icmp .eq 11, 3) := by decide +kernel
theorem dX4_takeWhole_8 : decode cX4_takeWhole 8 = .ok (.aload_n 0, 1) := by decide +kernel
theorem dX4_takeWhole_9 : decode cX4_takeWhole 9 = .ok (.iconst 1, 1) := by decide +kernel
theorem dX4_takeWhole_10 : decode cX4_takeWhole 10 = .ok (.invokevirtual 64, 3) := by decide +kernel
theorem dX4_takeWhole_13 : decode cX4_takeWhole 13 = .ok (.pop, 1) := by decide +kernel
theorem dX4_takeWhole_14 : decode cX4_takeWhole 14 = .ok (.iconst (-1), 1) := by decide +kernel
theorem dX4_takeWhole_15 : decode cX4_takeWhole 15 = .ok (.ireturn, 1) := by decide +kernel
theorem dX4_takeWhole_16 : decode cX4_takeWhole 16 = .ok (.iconst 0, 1) := by decide +kernel
theorem dX4_takeWhole_17 : decode cX4_takeWhole 17 = .ok (.istore_n 3, 1) := by decide +kernel
theorem dX4_takeWhole_18 : decode cX4_takeWhole 18 = .ok (.aload_n 0, 1) := by decide +kernel
theorem dX4_takeWhole_19 : decode cX4_takeWhole 19 = .ok (.getfield 131, 3) := by decide +kernel
theorem dX4_takeWhole_22 : decode cX4_takeWhole 22 = .ok (.istore 4, 2) := by decide +kernel
theorem dX4_takeWhole_24 : decode cX4_takeWhole 24 = .ok (.iload 4, 2) := by decide +kernel
theorem dX4_takeWhole_26 : decode cX4_takeWhole 26 = .ok (.aload_n 0, 1) := by decide +kernel
theorem dX4_takeWhole_27 : decode cX4_takeWhole 27 = .ok (.getfield 35, 3) := by decide +kernel
theorem dX4_takeWhole_30 : decode cX4_takeWhole 30 = .ok (.if_icmp .ge 24, 3) := by decide +kernel
theorem dX4_takeWhole_33 : decode cX4_takeWhole 33 = .ok (.iload_n 3, 1) := by decide +kernel
theorem dX4_takeWhole_34 : decode cX4_takeWhole 34 = .ok (.bipush 10, 2) := by decide +kernel
theorem dX4_takeWhole_36 : decode cX4_takeWhole 36 = .ok (.imul, 1) := by decide +kernel
theorem dX4_takeWhole_37 : decode cX4_takeWhole 37 = .ok (.aload_n 0, 1) := by decide +kernel
theorem dX4_takeWhole_38 : decode cX4_takeWhole 38 = .ok (.iload 4, 2) := by decide +kernel
theorem dX4_takeWhole_40 : decode cX4_takeWhole 40 = .ok (.invokevirtual 142, 3) := by decide +kernel
theorem dX4_takeWhole_43 : decode cX4_takeWhole 43 = .ok (.iadd, 1) := by decide +kernel
theorem dX4_takeWhole_44 : decode cX4_takeWhole 44 = .ok (.bipush 48, 2) := by decide +kernel
theorem dX4_takeWhole_46 : decode cX4_takeWhole 46 = .ok (.isub, 1) := by decide +kernel
theorem dX4_takeWhole_47 : decode cX4_takeWhole 47 = .ok (.istore_n 3, 1) := by decide +kernel
theorem dX4_takeWhole_48 : decode cX4_takeWhole 48 = .ok (.iinc 4 1, 3) := by decide +kernel
theorem dX4_takeWhole_51 : decode cX4_takeWhole 51 = .ok (.goto (-27), 3) := by decide +kernel
theorem dX4_takeWhole_54 : decode cX4_takeWhole 54 = .ok (.iload_n 3, 1) := by decide +kernel
theorem dX4_takeWhole_55 : decode cX4_takeWhole 55 = .ok (.iload_n 1, 1) := by decide +kernel
theorem dX4_takeWhole_56 : decode cX4_takeWhole 56 = .ok (.if_icmp .lt 8, 3) := by decide +kernel
theorem dX4_takeWhole_59 : decode cX4_takeWhole 59 = .ok (.iload_n 3, 1) := by decide +kernel
theorem dX4_takeWhole_60 : decode cX4_takeWhole 60 = .ok (.iload_n 2, 1) := by decide +kernel
theorem dX4_takeWhole_61 : decode cX4_takeWhole 61 = .ok (.if_icmp .le 11, 3) := by decide +kernel
theorem dX4_takeWhole_64 : decode cX4_takeWhole 64 = .ok (.aload_n 0, 1) := by decide +kernel
theorem dX4_takeWhole_65 : decode cX4_takeWhole 65 = .ok (.iconst 2, 1) := by decide +kernel
theorem dX4_takeWhole_66 : decode cX4_takeWhole 66 = .ok (.invokevirtual 64, 3) := by decide +kernel
theorem dX4_takeWhole_69 : decode cX4_takeWhole 69 = .ok (.pop, 1) := by decide +kernel
theorem dX4_takeWhole_70 : decode cX4_takeWhole 70 = .ok (.iconst (-1), 1) := by decide +kernel
theorem dX4_takeWhole_71 : decode cX4_takeWhole 71 = .ok (.ireturn, 1) := by decide +kernel
theorem dX4_takeWhole_72 : decode cX4_takeWhole 72 = .ok (.aload_n 0, 1) := by decide +kernel
theorem dX4_takeWhole_73 : decode cX4_takeWhole 73 = .ok (.invokevirtual 45, 3) := by decide +kernel
theorem dX4_takeWhole_76 : decode cX4_takeWhole 76 = .ok (.iload_n 3, 1) := by decide +kernel
theorem dX4_takeWhole_77 : decode cX4_takeWhole 77 = .ok (.ireturn, 1) := by decide +kernel
theorem dX4_fail_0 : decode cX4_fail 0 = .ok (.aload_n 0, 1) := by decide +kernel
theorem dX4_fail_1 : decode cX4_fail 1 = .ok (.iload_n 1, 1) := by decide +kernel
theorem dX4_fail_2 : decode cX4_fail 2 = .ok (.putfield 42, 3) := by decide +kernel
theorem dX4_fail_5 : decode cX4_fail 5 = .ok (.aload_n 0, 1) := by decide +kernel
theorem dX4_fail_6 : decode cX4_fail 6 = .ok (.aload_n 0, 1) := by decide +kernel
theorem dX4_fail_7 : decode cX4_fail 7 = .ok (.getfield 131, 3) := by decide +kernel
theorem dX4_fail_10 : decode cX4_fail 10 = .ok (.putfield 55, 3) := by decide +kernel
theorem dX4_fail_13 : decode cX4_fail 13 = .ok (.iconst 0, 1) := by decide +kernel
theorem dX4_fail_14 : decode cX4_fail 14 = .ok (.ireturn, 1) := by decide +kernel
theorem dX4_isLineEnd_0 : decode cX4_isLineEnd 0 = .ok (.aload_n 0, 1) := by decide +kernel
theorem dX4_isLineEnd_1 : decode cX4_isLineEnd 1 = .ok (.getfield 52, 3) := by decide +kernel
theorem dX4_isLineEnd_4 : decode cX4_isLineEnd 4 = .ok (.iconst 3, 1) := by decide +kernel
theorem dX4_isLineEnd_5 : decode cX4_isLineEnd 5 = .ok (.if_icmp .eq 10, 3) := by decide +kernel
theorem dX4_isLineEnd_8 : decode cX4_isLineEnd 8 = .ok (.aload_n 0, 1) := by decide +kernel
theorem dX4_isLineEnd_9 : decode cX4_isLineEnd 9 = .ok (.getfield 52, 3) := by decide +kernel
theorem dX4_isLineEnd_12 : decode cX4_isLineEnd 12 = .ok (.ifCond .ne 7, 3) := by decide +kernel
theorem dX4_isLineEnd_15 : decode cX4_isLineEnd 15 = .ok (.iconst 1, 1) := by decide +kernel
theorem dX4_isLineEnd_16 : decode cX4_isLineEnd 16 = .ok (.goto 4, 3) := by decide +kernel
theorem dX4_isLineEnd_19 : decode cX4_isLineEnd 19 = .ok (.iconst 0, 1) := by decide +kernel
theorem dX4_isLineEnd_20 : decode cX4_isLineEnd 20 = .ok (.ireturn, 1) := by decide +kernel
theorem dX4_isWord_0 : decode cX4_isWord 0 = .ok (.aload_n 0, 1) := by decide +kernel
theorem dX4_isWord_1 : decode cX4_isWord 1 = .ok (.getfield 52, 3) := by decide +kernel
theorem dX4_isWord_4 : decode cX4_isWord 4 = .ok (.iconst 1, 1) := by decide +kernel
theorem dX4_isWord_5 : decode cX4_isWord 5 = .ok (.if_icmp .ne 19, 3) := by decide +kernel
theorem dX4_isWord_8 : decode cX4_isWord 8 = .ok (.aload_n 0, 1) := by decide +kernel
theorem dX4_isWord_9 : decode cX4_isWord 9 = .ok (.getfield 35, 3) := by decide +kernel
theorem dX4_isWord_12 : decode cX4_isWord 12 = .ok (.aload_n 0, 1) := by decide +kernel
theorem dX4_isWord_13 : decode cX4_isWord 13 = .ok (.getfield 131, 3) := by decide +kernel
theorem dX4_isWord_16 : decode cX4_isWord 16 = .ok (.isub, 1) := by decide +kernel
theorem dX4_isWord_17 : decode cX4_isWord 17 = .ok (.aload_n 1, 1) := by decide +kernel
theorem dX4_isWord_18 : decode cX4_isWord 18 = .ok (.invokevirtual 145, 3) := by decide +kernel
theorem dX4_isWord_21 : decode cX4_isWord 21 = .ok (.if_icmp .eq 5, 3) := by decide +kernel
theorem dX4_isWord_24 : decode cX4_isWord 24 = .ok (.iconst 0, 1) := by decide +kernel
theorem dX4_isWord_25 : decode cX4_isWord 25 = .ok (.ireturn, 1) := by decide +kernel
theorem dX4_isWord_26 : decode cX4_isWord 26 = .ok (.iconst 0, 1) := by decide +kernel
theorem dX4_isWord_27 : decode cX4_isWord 27 = .ok (.istore_n 2, 1) := by decide +kernel
theorem dX4_isWord_28 : decode cX4_isWord 28 = .ok (.iload_n 2, 1) := by decide +kernel
theorem dX4_isWord_29 : decode cX4_isWord 29 = .ok (.aload_n 1, 1) := by decide +kernel
theorem dX4_isWord_30 : decode cX4_isWord 30 = .ok (.invokevirtual 145, 3) := by decide +kernel
theorem dX4_isWord_33 : decode cX4_isWord 33 = .ok (.if_icmp .ge 29, 3) := by decide +kernel
theorem dX4_isWord_36 : decode cX4_isWord 36 = .ok (.aload_n 0, 1) := by decide +kernel
theorem dX4_isWord_37 : decode cX4_isWord 37 = .ok (.aload_n 0, 1) := by decide +kernel
theorem dX4_isWord_38 : decode cX4_isWord 38 = .ok (.getfield 131, 3) := by decide +kernel
theorem dX4_isWord_41 : decode cX4_isWord 41 = .ok (.iload_n 2, 1) := by decide +kernel
theorem dX4_isWord_42 : decode cX4_isWord 42 = .ok (.iadd, 1) := by decide +kernel
theorem dX4_isWord_43 : decode cX4_isWord 43 = .ok (.invokevirtual 142, 3) := by decide +kernel
theorem dX4_isWord_46 : decode cX4_isWord 46 = .ok (.aload_n 1, 1) := by decide +kernel
theorem dX4_isWord_47 : decode cX4_isWord 47 = .ok (.iload_n 2, 1) := by decide +kernel
theorem dX4_isWord_48 : decode cX4_isWord 48 = .ok (.invokevirtual 150, 3) := by decide +kernel
theorem dX4_isWord_51 : decode cX4_isWord 51 = .ok (.if_icmp .eq 5, 3) := by decide +kernel
theorem dX4_isWord_54 : decode cX4_isWord 54 = .ok (.iconst 0, 1) := by decide +kernel
theorem dX4_isWord_55 : decode cX4_isWord 55 = .ok (.ireturn, 1) := by decide +kernel
theorem dX4_isWord_56 : decode cX4_isWord 56 = .ok (.iinc 2 1, 3) := by decide +kernel
theorem dX4_isWord_59 : decode cX4_isWord 59 = .ok (.goto (-31), 3) := by decide +kernel
theorem dX4_isWord_62 : decode cX4_isWord 62 = .ok (.iconst 1, 1) := by decide +kernel
theorem dX4_isWord_63 : decode cX4_isWord 63 = .ok (.ireturn, 1) := by decide +kernel
theorem dX4_advance_0 : decode cX4_advance 0 = .ok (.aload_n 0, 1) := by decide +kernel
theorem dX4_advance_1 : decode cX4_advance 1 = .ok (.getfield 35, 3) := by decide +kernel
theorem dX4_advance_4 : decode cX4_advance 4 = .ok (.aload_n 0, 1) := by decide +kernel
theorem dX4_advance_5 : decode cX4_advance 5 = .ok (.getfield 28, 3) := by decide +kernel
theorem dX4_advance_8 : decode cX4_advance 8 = .ok (.if_icmp .ge 28, 3) := by decide +kernel
theorem dX4_advance_11 : decode cX4_advance 11 = .ok (.aload_n 0, 1) := by decide +kernel
theorem dX4_advance_12 : decode cX4_advance 12 = .ok (.aload_n 0, 1) := by decide +kernel
theorem dX4_advance_13 : decode cX4_advance 13 = .ok (.getfield 35, 3) := by decide +kernel
theorem dX4_advance_16 : decode cX4_advance 16 = .ok (.invokevirtual 154, 3) := by decide +kernel
theorem dX4_advance_19 : decode cX4_advance 19 = .ok (.iconst 5, 1) := by decide +kernel
theorem dX4_advance_20 : decode cX4_advance 20 = .ok (.if_icmp .ne 16, 3) := by decide +kernel
theorem dX4_advance_23 : decode cX4_advance 23 = .ok (.aload_n 0, 1) := by decide +kernel
theorem dX4_advance_24 : decode cX4_advance 24 = .ok (.dup, 1) := by decide +kernel
theorem dX4_advance_25 : decode cX4_advance 25 = .ok (.getfield 35, 3) := by decide +kernel
theorem dX4_advance_28 : decode cX4_advance 28 = .ok (.iconst 1, 1) := by decide +kernel
theorem dX4_advance_29 : decode cX4_advance 29 = .ok (.iadd, 1) := by decide +kernel
theorem dX4_advance_30 : decode cX4_advance 30 = .ok (.putfield 35, 3) := by decide +kernel
theorem dX4_advance_33 : decode cX4_advance 33 = .ok (.goto (-33), 3) := by decide +kernel
theorem dX4_advance_36 : decode cX4_advance 36 = .ok (.aload_n 0, 1) := by decide +kernel
theorem dX4_advance_37 : decode cX4_advance 37 = .ok (.aload_n 0, 1) := by decide +kernel
theorem dX4_advance_38 : decode cX4_advance 38 = .ok (.getfield 35, 3) := by decide +kernel
theorem dX4_advance_41 : decode cX4_advance 41 = .ok (.putfield 131, 3) := by decide +kernel
theorem dX4_advance_44 : decode cX4_advance 44 = .ok (.aload_n 0, 1) := by decide +kernel
theorem dX4_advance_45 : decode cX4_advance 45 = .ok (.aload_n 0, 1) := by decide +kernel
theorem dX4_advance_46 : decode cX4_advance 46 = .ok (.aload_n 0, 1) := by decide +kernel
theorem dX4_advance_47 : decode cX4_advance 47 = .ok (.getfield 35, 3) := by decide +kernel
theorem dX4_advance_50 : decode cX4_advance 50 = .ok (.invokevirtual 154, 3) := by decide +kernel
theorem dX4_advance_53 : decode cX4_advance 53 = .ok (.putfield 52, 3) := by decide +kernel
theorem dX4_advance_56 : decode cX4_advance 56 = .ok (.aload_n 0, 1) := by decide +kernel
theorem dX4_advance_57 : decode cX4_advance 57 = .ok (.getfield 52, 3) := by decide +kernel
theorem dX4_advance_60 : decode cX4_advance 60 = .ok (.iconst 1, 1) := by decide +kernel
theorem dX4_advance_61 : decode cX4_advance 61 = .ok (.if_icmp .eq 11, 3) := by decide +kernel
theorem dX4_advance_64 : decode cX4_advance 64 = .ok (.aload_n 0, 1) := by decide +kernel
theorem dX4_advance_65 : decode cX4_advance 65 = .ok (.getfield 52, 3) := by decide +kernel
theorem dX4_advance_68 : decode cX4_advance 68 = .ok (.iconst 2, 1) := by decide +kernel
theorem dX4_advance_69 : decode cX4_advance 69 = .ok (.if_icmp .ne 7, 3) := by decide +kernel
theorem dX4_advance_72 : decode cX4_advance 72 = .ok (.iconst 1, 1) := by decide +kernel
theorem dX4_advance_73 : decode cX4_advance 73 = .ok (.goto 4, 3) := by decide +kernel
theorem dX4_advance_76 : decode cX4_advance 76 = .ok (.iconst 0, 1) := by decide +kernel
theorem dX4_advance_77 : decode cX4_advance 77 = .ok (.istore_n 1, 1) := by decide +kernel
theorem dX4_advance_78 : decode cX4_advance 78 = .ok (.aload_n 0, 1) := by decide +kernel
theorem dX4_advance_79 : decode cX4_advance 79 = .ok (.getfield 35, 3) := by decide +kernel
theorem dX4_advance_82 : decode cX4_advance 82 = .ok (.aload_n 0, 1) := by decide +kernel
theorem dX4_advance_83 : decode cX4_advance 83 = .ok (.getfield 28, 3) := by decide +kernel
theorem dX4_advance_86 : decode cX4_advance 86 = .ok (.if_icmp .ge 46, 3) := by decide +kernel
theorem dX4_advance_89 : decode cX4_advance 89 = .ok (.aload_n 0, 1) := by decide +kernel
theorem dX4_advance_90 : decode cX4_advance 90 = .ok (.getfield 35, 3) := by decide +kernel
theorem dX4_advance_93 : decode cX4_advance 93 = .ok (.aload_n 0, 1) := by decide +kernel
theorem dX4_advance_94 : decode cX4_advance 94 = .ok (.getfield 131, 3) := by decide +kernel
theorem dX4_advance_97 : decode cX4_advance 97 = .ok (.if_icmp .eq 22, 3) := by decide +kernel
theorem dX4_advance_100 : decode cX4_advance 100 = .ok (.iload_n 1, 1) := by decide +kernel
theorem dX4_advance_101 : decode cX4_advance 101 = .ok (.ifCond .eq 31, 3) := by decide +kernel
theorem dX4_advance_104 : decode cX4_advance 104 = .ok (.aload_n 0, 1) := by decide +kernel
theorem dX4_advance_105 : decode cX4_advance 105 = .ok (.aload_n 0, 1) := by decide +kernel
theorem dX4_advance_106 : decode cX4_advance 106 = .ok (.getfield 35, 3) := by decide +kernel
theorem dX4_advance_109 : decode cX4_advance 109 = .ok (.invokevirtual 154, 3) := by decide +kernel
theorem dX4_advance_112 : decode cX4_advance 112 = .ok (.aload_n 0, 1) := by decide +kernel
theorem dX4_advance_113 : decode cX4_advance 113 = .ok (.getfield 52, 3) := by decide +kernel
theorem dX4_advance_116 : decode cX4_advance 116 = .ok (.if_icmp .ne 16, 3) := by decide +kernel
theorem dX4_advance_119 : decode cX4_advance 119 = .ok (.aload_n 0, 1) := by decide +kernel
theorem dX4_advance_120 : decode cX4_advance 120 = .ok (.dup, 1) := by decide +kernel
theorem dX4_advance_121 : decode cX4_advance 121 = .ok (.getfield 35, 3) := by decide +kernel
theorem dX4_advance_124 : decode cX4_advance 124 = .ok (.iconst 1, 1) := by decide +kernel
theorem dX4_advance_125 : decode cX4_advance 125 = .ok (.iadd, 1) := by decide +kernel
theorem dX4_advance_126 : decode cX4_advance 126 = .ok (.putfield 35, 3) := by decide +kernel
theorem dX4_advance_129 : decode cX4_advance 129 = .ok (.goto (-51), 3) := by decide +kernel
theorem dX4_advance_132 : decode cX4_advance 132 = .ok (.iload_n 1, 1) := by decide +kernel
theorem dX4_advance_133 : decode cX4_advance 133 = .ok (.ifCond .eq 35, 3) := by decide +kernel
theorem dX4_advance_136 : decode cX4_advance 136 = .ok (.aload_n 0, 1) := by decide +kernel
theorem dX4_advance_137 : decode cX4_advance 137 = .ok (.getfield 35, 3) := by decide +kernel
theorem dX4_advance_140 : decode cX4_advance 140 = .ok (.aload_n 0, 1) := by decide +kernel
theorem dX4_advance_141 : decode cX4_advance 141 = .ok (.getfield 131, 3) := by decide +kernel
theorem dX4_advance_144 : decode cX4_advance 144 = .ok (.isub, 1) := by decide +kernel
theorem dX4_advance_145 : decode cX4_advance 145 = .ok (.aload_n 0, 1) := by decide +kernel
theorem dX4_advance_146 : decode cX4_advance 146 = .ok (.getfield 52, 3) := by decide +kernel
theorem dX4_advance_149 : decode cX4_advance 149 = .ok (.iconst 1, 1) := by decide +kernel
theorem dX4_advance_150 : decode cX4_advance 150 = .ok (.if_icmp .ne 8, 3) := by decide +kernel
theorem dX4_advance_153 : decode cX4_advance 153 = .ok (.bipush 6, 2) := by decide +kernel
theorem dX4_advance_155 : decode cX4_advance 155 = .ok (.goto 4, 3) := by decide +kernel
theorem dX4_advance_158 : decode cX4_advance 158 = .ok (.iconst 3, 1) := by decide +kernel
theorem dX4_advance_159 : decode cX4_advance 159 = .ok (.if_icmp .le 9, 3) := by decide +kernel
theorem dX4_advance_162 : decode cX4_advance 162 = .ok (.aload_n 0, 1) := by decide +kernel
theorem dX4_advance_163 : decode cX4_advance 163 = .ok (.bipush 6, 2) := by decide +kernel
theorem dX4_advance_165 : decode cX4_advance 165 = .ok (.putfield 52, 3) := by decide +kernel
theorem dX4_advance_168 : decode cX4_advance 168 = .ok (.return_, 1) := by decide +kernel
theorem dX4_kindAt_0 : decode cX4_kindAt 0 = .ok (.iload_n 1, 1) := by decide +kernel
theorem dX4_kindAt_1 : decode cX4_kindAt 1 = .ok (.ifCond .lt 20, 3) := by decide +kernel
theorem dX4_kindAt_4 : decode cX4_kindAt 4 = .ok (.iload_n 1, 1) := by decide +kernel
theorem dX4_kindAt_5 : decode cX4_kindAt 5 = .ok (.aload_n 0, 1) := by decide +kernel
theorem dX4_kindAt_6 : decode cX4_kindAt 6 = .ok (.getfield 28, 3) := by decide +kernel
theorem dX4_kindAt_9 : decode cX4_kindAt 9 = .ok (.if_icmp .ge 12, 3) := by decide +kernel
theorem dX4_kindAt_12 : decode cX4_kindAt 12 = .ok (.iload_n 1, 1) := by decide +kernel
theorem dX4_kindAt_13 : decode cX4_kindAt 13 = .ok (.aload_n 0, 1) := by decide +kernel
theorem dX4_kindAt_14 : decode cX4_kindAt 14 = .ok (.getfield 9, 3) := by decide +kernel
theorem dX4_kindAt_17 : decode cX4_kindAt 17 = .ok (.arraylength, 1) := by decide +kernel
theorem dX4_kindAt_18 : decode cX4_kindAt 18 = .ok (.if_icmp .lt 5, 3) := by decide +kernel
theorem dX4_kindAt_21 : decode cX4_kindAt 21 = .ok (.iconst 0, 1) := by decide +kernel
theorem dX4_kindAt_22 : decode cX4_kindAt 22 = .ok (.ireturn, 1) := by decide +kernel
theorem dX4_kindAt_23 : decode cX4_kindAt 23 = .ok (.aload_n 0, 1) := by decide +kernel
theorem dX4_kindAt_24 : decode cX4_kindAt 24 = .ok (.getfield 9, 3) := by decide +kernel
theorem dX4_kindAt_27 : decode cX4_kindAt 27 = .ok (.iload_n 1, 1) := by decide +kernel
theorem dX4_kindAt_28 : decode cX4_kindAt 28 = .ok (.iaload, 1) := by decide +kernel
theorem dX4_kindAt_29 : decode cX4_kindAt 29 = .ok (.istore_n 2, 1) := by decide +kernel
theorem dX4_kindAt_30 : decode cX4_kindAt 30 = .ok (.iload_n 2, 1) := by decide +kernel
theorem dX4_kindAt_31 : decode cX4_kindAt 31 = .ok (.bipush 97, 2) := by decide +kernel
theorem dX4_kindAt_33 : decode cX4_kindAt 33 = .ok (.if_icmp .lt 11, 3) := by decide +kernel
theorem dX4_kindAt_36 : decode cX4_kindAt 36 = .ok (.iload_n 2, 1) := by decide +kernel
theorem dX4_kindAt_37 : decode cX4_kindAt 37 = .ok (.bipush 122, 2) := by decide +kernel
theorem dX4_kindAt_39 : decode cX4_kindAt 39 = .ok (.if_icmp .gt 5, 3) := by decide +kernel
theorem dX4_kindAt_42 : decode cX4_kindAt 42 = .ok (.iconst 1, 1) := by decide +kernel
theorem dX4_kindAt_43 : decode cX4_kindAt 43 = .ok (.ireturn, 1) := by decide +kernel
theorem dX4_kindAt_44 : decode cX4_kindAt 44 = .ok (.iload_n 2, 1) := by decide +kernel
theorem dX4_kindAt_45 : decode cX4_kindAt 45 = .ok (.bipush 48, 2) := by decide +kernel
theorem dX4_kindAt_47 : decode cX4_kindAt 47 = .ok (.if_icmp .lt 11, 3) := by decide +kernel
theorem dX4_kindAt_50 : decode cX4_kindAt 50 = .ok (.iload_n 2, 1) := by decide +kernel
theorem dX4_kindAt_51 : decode cX4_kindAt 51 = .ok (.bipush 57, 2) := by decide +kernel
theorem dX4_kindAt_53 : decode cX4_kindAt 53 = .ok (.if_icmp .gt 5, 3) := by decide +kernel
theorem dX4_kindAt_56 : decode cX4_kindAt 56 = .ok (.iconst 2, 1) := by decide +kernel
theorem dX4_kindAt_57 : decode cX4_kindAt 57 = .ok (.ireturn, 1) := by decide +kernel
theorem dX4_kindAt_58 : decode cX4_kindAt 58 = .ok (.iload_n 2, 1) := by decide +kernel
theorem dX4_kindAt_59 : decode cX4_kindAt 59 = .ok (.lookupswitch 39 #[(32, 33), (44, 37), (59, 35)], 33) := by decide +kernel
theorem dX4_kindAt_92 : decode cX4_kindAt 92 = .ok (.iconst 5, 1) := by decide +kernel
theorem dX4_kindAt_93 : decode cX4_kindAt 93 = .ok (.ireturn, 1) := by decide +kernel
theorem dX4_kindAt_94 : decode cX4_kindAt 94 = .ok (.iconst 3, 1) := by decide +kernel
theorem dX4_kindAt_95 : decode cX4_kindAt 95 = .ok (.ireturn, 1) := by decide +kernel
theorem dX4_kindAt_96 : decode cX4_kindAt 96 = .ok (.iconst 4, 1) := by decide +kernel
theorem dX4_kindAt_97 : decode cX4_kindAt 97 = .ok (.ireturn, 1) := by decide +kernel
theorem dX4_kindAt_98 : decode cX4_kindAt 98 = .ok (.bipush 6, 2) := by decide +kernel
theorem dX4_kindAt_100 : decode cX4_kindAt 100 = .ok (.ireturn, 1) := by decide +kernel
theorem dX4_byteAt_0 : decode cX4_byteAt 0 = .ok (.iload_n 1, 1) := by decide +kernel
theorem dX4_byteAt_1 : decode cX4_byteAt 1 = .ok (.ifCond .lt 21, 3) := by decide +kernel
theorem dX4_byteAt_4 : decode cX4_byteAt 4 = .ok (.iload_n 1, 1) := by decide +kernel
theorem dX4_byteAt_5 : decode cX4_byteAt 5 = .ok (.aload_n 0, 1) := by decide +kernel
theorem dX4_byteAt_6 : decode cX4_byteAt 6 = .ok (.getfield 9, 3) := by decide +kernel
theorem dX4_byteAt_9 : decode cX4_byteAt 9 = .ok (.arraylength, 1) := by decide +kernel
theorem dX4_byteAt_10 : decode cX4_byteAt 10 = .ok (.if_icmp .ge 12, 3) := by decide +kernel
theorem dX4_byteAt_13 : decode cX4_byteAt 13 = .ok (.aload_n 0, 1) := by decide +kernel
theorem dX4_byteAt_14 : decode cX4_byteAt 14 = .ok (.getfield 9, 3) := by decide +kernel
theorem dX4_byteAt_17 : decode cX4_byteAt 17 = .ok (.iload_n 1, 1) := by decide +kernel
theorem dX4_byteAt_18 : decode cX4_byteAt 18 = .ok (.iaload, 1) := by decide +kernel
theorem dX4_byteAt_19 : decode cX4_byteAt 19 = .ok (.goto 4, 3) := by decide +kernel
theorem dX4_byteAt_22 : decode cX4_byteAt 22 = .ok (.iconst (-1), 1) := by decide +kernel
theorem dX4_byteAt_23 : decode cX4_byteAt 23 = .ok (.ireturn, 1) := by decide +kernel
theorem dX5_init_0 : decode cX5_init 0 = .ok (.aload_n 0, 1) := by decide +kernel
theorem dX5_init_1 : decode cX5_init 1 = .ok (.invokespecial 3, 3) := by decide +kernel
theorem dX5_init_4 : decode cX5_init 4 = .ok (.aload_n 0, 1) := by decide +kernel
theorem dX5_init_5 : decode cX5_init 5 = .ok (.iconst 1, 1) := by decide +kernel
theorem dX5_init_6 : decode cX5_init 6 = .ok (.putfield 9, 3) := by decide +kernel
theorem dX5_init_9 : decode cX5_init 9 = .ok (.aload_n 0, 1) := by decide +kernel
theorem dX5_init_10 : decode cX5_init 10 = .ok (.iconst 1, 1) := by decide +kernel
theorem dX5_init_11 : decode cX5_init 11 = .ok (.putfield 15, 3) := by decide +kernel
theorem dX5_init_14 : decode cX5_init 14 = .ok (.aload_n 0, 1) := by decide +kernel
theorem dX5_init_15 : decode cX5_init 15 = .ok (.bipush 15, 2) := by decide +kernel
theorem dX5_init_17 : decode cX5_init 17 = .ok (.putfield 18, 3) := by decide +kernel
theorem dX5_init_20 : decode cX5_init 20 = .ok (.aload_n 0, 1) := by decide +kernel
theorem dX5_init_21 : decode cX5_init 21 = .ok (.sipush 160, 3) := by decide +kernel
theorem dX5_init_24 : decode cX5_init 24 = .ok (.newarray .int, 2) := by decide +kernel
theorem dX5_init_26 : decode cX5_init 26 = .ok (.putfield 21, 3) := by decide +kernel
theorem dX5_init_29 : decode cX5_init 29 = .ok (.aload_n 0, 1) := by decide +kernel
theorem dX5_init_30 : decode cX5_init 30 = .ok (.bipush 24, 2) := by decide +kernel
theorem dX5_init_32 : decode cX5_init 32 = .ok (.newarray .int, 2) := by decide +kernel
theorem dX5_init_34 : decode cX5_init 34 = .ok (.putfield 25, 3) := by decide +kernel
theorem dX5_init_37 : decode cX5_init 37 = .ok (.aload_n 0, 1) := by decide +kernel
theorem dX5_init_38 : decode cX5_init 38 = .ok (.bipush 24, 2) := by decide +kernel
theorem dX5_init_40 : decode cX5_init 40 = .ok (.newarray .int, 2) := by decide +kernel
theorem dX5_init_42 : decode cX5_init 42 = .ok (.putfield 28, 3) := by decide +kernel
theorem dX5_init_45 : decode cX5_init 45 = .ok (.aload_n 0, 1) := by decide +kernel
theorem dX5_init_46 : decode cX5_init 46 = .ok (.bipush 24, 2) := by decide +kernel
theorem dX5_init_48 : decode cX5_init 48 = .ok (.newarray .int, 2) := by decide +kernel
theorem dX5_init_50 : decode cX5_init 50 = .ok (.putfield 31, 3) := by decide +kernel
theorem dX5_init_53 : decode cX5_init 53 = .ok (.return_, 1) := by decide +kernel
theorem dX5_clear_0 : decode cX5_clear 0 = .ok (.aload_n 0, 1) := by decide +kernel
theorem dX5_clear_1 : decode cX5_clear 1 = .ok (.iconst 0, 1) := by decide +kernel
theorem dX5_clear_2 : decode cX5_clear 2 = .ok (.putfield 34, 3) := by decide +kernel
theorem dX5_clear_5 : decode cX5_clear 5 = .ok (.aload_n 0, 1) := by decide +kernel
theorem dX5_clear_6 : decode cX5_clear 6 = .ok (.iconst 0, 1) := by decide +kernel
theorem dX5_clear_7 : decode cX5_clear 7 = .ok (.putfield 37, 3) := by decide +kernel
theorem dX5_clear_10 : decode cX5_clear 10 = .ok (.return_, 1) := by decide +kernel
theorem dX5_addOp_0 : decode cX5_addOp 0 = .ok (.aload_n 0, 1) := by decide +kernel
theorem dX5_addOp_1 : decode cX5_addOp 1 = .ok (.getfield 37, 3) := by decide +kernel
theorem dX5_addOp_4 : decode cX5_addOp 4 = .ok (.bipush 24, 2) := by decide +kernel
theorem dX5_addOp_6 : decode cX5_addOp 6 = .ok (.if_icmp .ge 43, 3) := by decide +kernel
theorem dX5_addOp_9 : decode cX5_addOp 9 = .ok (.aload_n 0, 1) := by decide +kernel
theorem dX5_addOp_10 : decode cX5_addOp 10 = .ok (.getfield 25, 3) := by decide +kernel
theorem dX5_addOp_13 : decode cX5_addOp 13 = .ok (.aload_n 0, 1) := by decide +kernel
theorem dX5_addOp_14 : decode cX5_addOp 14 = .ok (.getfield 37, 3) := by decide +kernel
theorem dX5_addOp_17 : decode cX5_addOp 17 = .ok (.iload_n 1, 1) := by decide +kernel
theorem dX5_addOp_18 : decode cX5_addOp 18 = .ok (.iastore, 1) := by decide +kernel
theorem dX5_addOp_19 : decode cX5_addOp 19 = .ok (.aload_n 0, 1) := by decide +kernel
theorem dX5_addOp_20 : decode cX5_addOp 20 = .ok (.getfield 28, 3) := by decide +kernel
theorem dX5_addOp_23 : decode cX5_addOp 23 = .ok (.aload_n 0, 1) := by decide +kernel
theorem dX5_addOp_24 : decode cX5_addOp 24 = .ok (.getfield 37, 3) := by decide +kernel
theorem dX5_addOp_27 : decode cX5_addOp 27 = .ok (.iload_n 2, 1) := by decide +kernel
theorem dX5_addOp_28 : decode cX5_addOp 28 = .ok (.iastore, 1) := by decide +kernel
theorem dX5_addOp_29 : decode cX5_addOp 29 = .ok (.aload_n 0, 1) := by decide +kernel
theorem dX5_addOp_30 : decode cX5_addOp 30 = .ok (.getfield 31, 3) := by decide +kernel
theorem dX5_addOp_33 : decode cX5_addOp 33 = .ok (.aload_n 0, 1) := by decide +kernel
theorem dX5_addOp_34 : decode cX5_addOp 34 = .ok (.getfield 37, 3) := by decide +kernel
theorem dX5_addOp_37 : decode cX5_addOp 37 = .ok (.iload_n 3, 1) := by decide +kernel
theorem dX5_addOp_38 : decode cX5_addOp 38 = .ok (.iastore, 1) := by decide +kernel
theorem dX5_addOp_39 : decode cX5_addOp 39 = .ok (.aload_n 0, 1) := by decide +kernel
theorem dX5_addOp_40 : decode cX5_addOp 40 = .ok (.dup, 1) := by decide +kernel
theorem dX5_addOp_41 : decode cX5_addOp 41 = .ok (.getfield 37, 3) := by decide +kernel
theorem dX5_addOp_44 : decode cX5_addOp 44 = .ok (.iconst 1, 1) := by decide +kernel
theorem dX5_addOp_45 : decode cX5_addOp 45 = .ok (.iadd, 1) := by decide +kernel
theorem dX5_addOp_46 : decode cX5_addOp 46 = .ok (.putfield 37, 3) := by decide +kernel
theorem dX5_addOp_49 : decode cX5_addOp 49 = .ok (.return_, 1) := by decide +kernel
theorem dX5_addCells_0 : decode cX5_addCells 0 = .ok (.bipush 16, 2) := by decide +kernel
theorem dX5_addCells_2 : decode cX5_addCells 2 = .ok (.iload_n 2, 1) := by decide +kernel
theorem dX5_addCells_3 : decode cX5_addCells 3 = .ok (.iload_n 3, 1) := by decide +kernel
theorem dX5_addCells_4 : decode cX5_addCells 4 = .ok (.iadd, 1) := by decide +kernel
theorem dX5_addCells_5 : decode cX5_addCells 5 = .ok (.invokestatic 40, 3) := by decide +kernel
theorem dX5_addCells_8 : decode cX5_addCells 8 = .ok (.istore 4, 2) := by decide +kernel
theorem dX5_addCells_10 : decode cX5_addCells 10 = .ok (.iload_n 2, 1) := by decide +kernel
theorem dX5_addCells_11 : decode cX5_addCells 11 = .ok (.istore 5, 2) := by decide +kernel
theorem dX5_addCells_13 : decode cX5_addCells 13 = .ok (.iload 5, 2) := by decide +kernel
theorem dX5_addCells_15 : decode cX5_addCells 15 = .ok (.iload 4, 2) := by decide +kernel
theorem dX5_addCells_17 : decode cX5_addCells 17 = .ok (.if_icmp .ge 34, 3) := by decide +kernel
theorem dX5_addCells_20 : decode cX5_addCells 20 = .ok (.aload_n 0, 1) := by decide +kernel
theorem dX5_addCells_21 : decode cX5_addCells 21 = .ok (.getfield 34, 3) := by decide +kernel
theorem dX5_addCells_24 : decode cX5_addCells 24 = .ok (.bipush 10, 2) := by decide +kernel
theorem dX5_addCells_26 : decode cX5_addCells 26 = .ok (.if_icmp .ge 25, 3) := by decide +kernel
theorem dX5_addCells_29 : decode cX5_addCells 29 = .ok (.aload_n 0, 1) := by decide +kernel
theorem dX5_addCells_30 : decode cX5_addCells 30 = .ok (.getfield 21, 3) := by decide +kernel
theorem dX5_addCells_33 : decode cX5_addCells 33 = .ok (.aload_n 0, 1) := by decide +kernel
theorem dX5_addCells_34 : decode cX5_addCells 34 = .ok (.getfield 34, 3) := by decide +kernel
theorem dX5_addCells_37 : decode cX5_addCells 37 = .ok (.bipush 16, 2) := by decide +kernel
theorem dX5_addCells_39 : decode cX5_addCells 39 = .ok (.imul, 1) := by decide +kernel
theorem dX5_addCells_40 : decode cX5_addCells 40 = .ok (.iload 5, 2) := by decide +kernel
theorem dX5_addCells_42 : decode cX5_addCells 42 = .ok (.iadd, 1) := by decide +kernel
theorem dX5_addCells_43 : decode cX5_addCells 43 = .ok (.iload_n 1, 1) := by decide +kernel
theorem dX5_addCells_44 : decode cX5_addCells 44 = .ok (.iastore, 1) := by decide +kernel
theorem dX5_addCells_45 : decode cX5_addCells 45 = .ok (.iinc 5 1, 3) := by decide +kernel
theorem dX5_addCells_48 : decode cX5_addCells 48 = .ok (.goto (-35), 3) := by decide +kernel
theorem dX5_addCells_51 : decode cX5_addCells 51 = .ok (.return_, 1) := by decide +kernel
theorem dX6_init_0 : decode cX6_init 0 = .ok (.aload_n 0, 1) := by decide +kernel
theorem dX6_init_1 : decode cX6_init 1 = .ok (.invokespecial 3, 3) := by decide +kernel
theorem dX6_init_4 : decode cX6_init 4 = .ok (.aload_n 0, 1) := by decide +kernel
theorem dX6_init_5 : decode cX6_init 5 = .ok (.sipush 160, 3) := by decide +kernel
theorem dX6_init_8 : decode cX6_init 8 = .ok (.newarray .int, 2) := by decide +kernel
theorem dX6_init_10 : decode cX6_init 10 = .ok (.putfield 9, 3) := by decide +kernel
theorem dX6_init_13 : decode cX6_init 13 = .ok (.aload_n 0, 1) := by decide +kernel
theorem dX6_init_14 : decode cX6_init 14 = .ok (.bipush 10, 2) := by decide +kernel
theorem dX6_init_16 : decode cX6_init 16 = .ok (.newarray .int, 2) := by decide +kernel
theorem dX6_init_18 : decode cX6_init 18 = .ok (.putfield 15, 3) := by decide +kernel
theorem dX6_init_21 : decode cX6_init 21 = .ok (.aload_n 0, 1) := by decide +kernel
theorem dX6_init_22 : decode cX6_init 22 = .ok (.new 18, 3) := by decide +kernel
theorem dX6_init_25 : decode cX6_init 25 = .ok (.dup, 1) := by decide +kernel
theorem dX6_init_26 : decode cX6_init 26 = .ok (.invokespecial 20, 3) := by decide +kernel
theorem dX6_init_29 : decode cX6_init 29 = .ok (.putfield 21, 3) := by decide +kernel
theorem dX6_init_32 : decode cX6_init 32 = .ok (.return_, 1) := by decide +kernel
theorem dX6_begin_0 : decode cX6_begin 0 = .ok (.aload_n 1, 1) := by decide +kernel
theorem dX6_begin_1 : decode cX6_begin 1 = .ok (.getfield 25, 3) := by decide +kernel
theorem dX6_begin_4 : decode cX6_begin 4 = .ok (.iconst 0, 1) := by decide +kernel
theorem dX6_begin_5 : decode cX6_begin 5 = .ok (.aload_n 0, 1) := by decide +kernel
theorem dX6_begin_6 : decode cX6_begin 6 = .ok (.getfield 9, 3) := by decide +kernel
theorem dX6_begin_9 : decode cX6_begin 9 = .ok (.iconst 0, 1) := by decide +kernel
theorem dX6_begin_10 : decode cX6_begin 10 = .ok (.sipush 160, 3) := by decide +kernel
theorem dX6_begin_13 : decode cX6_begin 13 = .ok (.invokestatic 28, 3) := by decide +kernel
theorem dX6_begin_16 : decode cX6_begin 16 = .ok (.iconst 0, 1) := by decide +kernel
theorem dX6_begin_17 : decode cX6_begin 17 = .ok (.istore_n 3, 1) := by decide +kernel
theorem dX6_begin_18 : decode cX6_begin 18 = .ok (.iload_n 3, 1) := by decide +kernel
theorem dX6_begin_19 : decode cX6_begin 19 = .ok (.aload_n 1, 1) := by decide +kernel
theorem dX6_begin_20 : decode cX6_begin 20 = .ok (.getfield 34, 3) := by decide +kernel
theorem dX6_begin_23 : decode cX6_begin 23 = .ok (.if_icmp .ge 15, 3) := by decide +kernel
theorem dX6_begin_26 : decode cX6_begin 26 = .ok (.aload_n 0, 1) := by decide +kernel
theorem dX6_begin_27 : decode cX6_begin 27 = .ok (.iload_n 3, 1) := by decide +kernel
theorem dX6_begin_28 : decode cX6_begin 28 = .ok (.aload_n 2, 1) := by decide +kernel
theorem dX6_begin_29 : decode cX6_begin 29 = .ok (.invokevirtual 38, 3) := by decide +kernel
theorem dX6_begin_32 : decode cX6_begin 32 = .ok (.iinc 3 1, 3) := by decide +kernel
theorem dX6_begin_35 : decode cX6_begin 35 = .ok (.goto (-17), 3) := by decide +kernel
theorem dX6_begin_38 : decode cX6_begin 38 = .ok (.aload_n 0, 1) := by decide +kernel
theorem dX6_begin_39 : decode cX6_begin 39 = .ok (.getfield 21, 3) := by decide +kernel
theorem dX6_begin_42 : decode cX6_begin 42 = .ok (.aload_n 1, 1) := by decide +kernel
theorem dX6_begin_43 : decode cX6_begin 43 = .ok (.getfield 42, 3) := by decide +kernel
theorem dX6_begin_46 : decode cX6_begin 46 = .ok (.aload_n 1, 1) := by decide +kernel
theorem dX6_begin_47 : decode cX6_begin 47 = .ok (.getfield 45, 3) := by decide +kernel
theorem dX6_begin_50 : decode cX6_begin 50 = .ok (.aload_n 1, 1) := by decide +kernel
theorem dX6_begin_51 : decode cX6_begin 51 = .ok (.getfield 48, 3) := by decide +kernel
theorem dX6_begin_54 : decode cX6_begin 54 = .ok (.invokevirtual 51, 3) := by decide +kernel
theorem dX6_begin_57 : decode cX6_begin 57 = .ok (.return_, 1) := by decide +kernel
theorem dX6_measure_0 : decode cX6_measure 0 = .ok (.iload_n 1, 1) := by decide +kernel
theorem dX6_measure_1 : decode cX6_measure 1 = .ok (.ifCond .lt 33, 3) := by decide +kernel
theorem dX6_measure_4 : decode cX6_measure 4 = .ok (.iload_n 1, 1) := by decide +kernel
theorem dX6_measure_5 : decode cX6_measure 5 = .ok (.bipush 10, 2) := by decide +kernel
theorem dX6_measure_7 : decode cX6_measure 7 = .ok (.if_icmp .ge 27, 3) := by decide +kernel
theorem dX6_measure_10 : decode cX6_measure 10 = .ok (.aload_n 2, 1) := by decide +kernel
theorem dX6_measure_11 : decode cX6_measure 11 = .ok (.aload_n 0, 1) := by decide +kernel
theorem dX6_measure_12 : decode cX6_measure 12 = .ok (.getfield 9, 3) := by decide +kernel
theorem dX6_measure_15 : decode cX6_measure 15 = .ok (.iload_n 1, 1) := by decide +kernel
theorem dX6_measure_16 : decode cX6_measure 16 = .ok (.bipush 16, 2) := by decide +kernel
theorem dX6_measure_18 : decode cX6_measure 18 = .ok (.imul, 1) := by decide +kernel
theorem dX6_measure_19 : decode cX6_measure 19 = .ok (.invokevirtual 55, 3) := by decide +kernel
theorem dX6_measure_22 : decode cX6_measure 22 = .ok (.aload_n 0, 1) := by decide +kernel
theorem dX6_measure_23 : decode cX6_measure 23 = .ok (.getfield 15, 3) := by decide +kernel
theorem dX6_measure_26 : decode cX6_measure 26 = .ok (.iload_n 1, 1) := by decide +kernel
theorem dX6_measure_27 : decode cX6_measure 27 = .ok (.aload_n 2, 1) := by decide +kernel
theorem dX6_measure_28 : decode cX6_measure 28 = .ok (.getfield 60, 3) := by decide +kernel
theorem dX6_measure_31 : decode cX6_measure 31 = .ok (.iconst 0, 1) := by decide +kernel
theorem dX6_measure_32 : decode cX6_measure 32 = .ok (.iaload, 1) := by decide +kernel
theorem dX6_measure_33 : decode cX6_measure 33 = .ok (.iastore, 1) := by decide +kernel
theorem dX6_measure_34 : decode cX6_measure 34 = .ok (.return_, 1) := by decide +kernel
theorem dX6_copyFrom_0 : decode cX6_copyFrom 0 = .ok (.aload_n 1, 1) := by decide +kernel
theorem dX6_copyFrom_1 : decode cX6_copyFrom 1 = .ok (.getfield 9, 3) := by decide +kernel
theorem dX6_copyFrom_4 : decode cX6_copyFrom 4 = .ok (.iconst 0, 1) := by decide +kernel
theorem dX6_copyFrom_5 : decode cX6_copyFrom 5 = .ok (.aload_n 0, 1) := by decide +kernel
theorem dX6_copyFrom_6 : decode cX6_copyFrom 6 = .ok (.getfield 9, 3) := by decide +kernel
theorem dX6_copyFrom_9 : decode cX6_copyFrom 9 = .ok (.iconst 0, 1) := by decide +kernel
theorem dX6_copyFrom_10 : decode cX6_copyFrom 10 = .ok (.sipush 160, 3) := by decide +kernel
theorem dX6_copyFrom_13 : decode cX6_copyFrom 13 = .ok (.invokestatic 28, 3) := by decide +kernel
theorem dX6_copyFrom_16 : decode cX6_copyFrom 16 = .ok (.aload_n 1, 1) := by decide +kernel
theorem dX6_copyFrom_17 : decode cX6_copyFrom 17 = .ok (.getfield 15, 3) := by decide +kernel
theorem dX6_copyFrom_20 : decode cX6_copyFrom 20 = .ok (.iconst 0, 1) := by decide +kernel
theorem dX6_copyFrom_21 : decode cX6_copyFrom 21 = .ok (.aload_n 0, 1) := by decide +kernel
theorem dX6_copyFrom_22 : decode cX6_copyFrom 22 = .ok (.getfield 15, 3) := by decide +kernel
theorem dX6_copyFrom_25 : decode cX6_copyFrom 25 = .ok (.iconst 0, 1) := by decide +kernel
theorem dX6_copyFrom_26 : decode cX6_copyFrom 26 = .ok (.bipush 10, 2) := by decide +kernel
theorem dX6_copyFrom_28 : decode cX6_copyFrom 28 = .ok (.invokestatic 28, 3) := by decide +kernel
theorem dX6_copyFrom_31 : decode cX6_copyFrom 31 = .ok (.aload_n 0, 1) := by decide +kernel
theorem dX6_copyFrom_32 : decode cX6_copyFrom 32 = .ok (.getfield 21, 3) := by decide +kernel
theorem dX6_copyFrom_35 : decode cX6_copyFrom 35 = .ok (.aload_n 1, 1) := by decide +kernel
theorem dX6_copyFrom_36 : decode cX6_copyFrom 36 = .ok (.getfield 21, 3) := by decide +kernel
theorem dX6_copyFrom_39 : decode cX6_copyFrom 39 = .ok (.invokevirtual 63, 3) := by decide +kernel
theorem dX6_copyFrom_42 : decode cX6_copyFrom 42 = .ok (.return_, 1) := by decide +kernel
theorem dX7_init_0 : decode cX7_init 0 = .ok (.aload_n 0, 1) := by decide +kernel
theorem dX7_init_1 : decode cX7_init 1 = .ok (.invokespecial 3, 3) := by decide +kernel
theorem dX7_init_4 : decode cX7_init 4 = .ok (.aload_n 0, 1) := by decide +kernel
theorem dX7_init_5 : decode cX7_init 5 = .ok (.bipush 24, 2) := by decide +kernel
theorem dX7_init_7 : decode cX7_init 7 = .ok (.newarray .int, 2) := by decide +kernel
theorem dX7_init_9 : decode cX7_init 9 = .ok (.putfield 9, 3) := by decide +kernel
theorem dX7_init_12 : decode cX7_init 12 = .ok (.aload_n 0, 1) := by decide +kernel
theorem dX7_init_13 : decode cX7_init 13 = .ok (.bipush 24, 2) := by decide +kernel
theorem dX7_init_15 : decode cX7_init 15 = .ok (.newarray .int, 2) := by decide +kernel
theorem dX7_init_17 : decode cX7_init 17 = .ok (.putfield 15, 3) := by decide +kernel
theorem dX7_init_20 : decode cX7_init 20 = .ok (.aload_n 0, 1) := by decide +kernel
theorem dX7_init_21 : decode cX7_init 21 = .ok (.bipush 24, 2) := by decide +kernel
theorem dX7_init_23 : decode cX7_init 23 = .ok (.newarray .int, 2) := by decide +kernel
theorem dX7_init_25 : decode cX7_init 25 = .ok (.putfield 18, 3) := by decide +kernel
theorem dX7_init_28 : decode cX7_init 28 = .ok (.aload_n 0, 1) := by decide +kernel
theorem dX7_init_29 : decode cX7_init 29 = .ok (.bipush 24, 2) := by decide +kernel
theorem dX7_init_31 : decode cX7_init 31 = .ok (.newarray .int, 2) := by decide +kernel
theorem dX7_init_33 : decode cX7_init 33 = .ok (.putfield 21, 3) := by decide +kernel
theorem dX7_init_36 : decode cX7_init 36 = .ok (.aload_n 0, 1) := by decide +kernel
theorem dX7_init_37 : decode cX7_init 37 = .ok (.sipush 384, 3) := by decide +kernel
theorem dX7_init_40 : decode cX7_init 40 = .ok (.newarray .int, 2) := by decide +kernel
theorem dX7_init_42 : decode cX7_init 42 = .ok (.putfield 24, 3) := by decide +kernel
theorem dX7_init_45 : decode cX7_init 45 = .ok (.return_, 1) := by decide +kernel
theorem dX7_clear_0 : decode cX7_clear 0 = .ok (.aload_n 0, 1) := by decide +kernel
theorem dX7_clear_1 : decode cX7_clear 1 = .ok (.iconst 0, 1) := by decide +kernel
theorem dX7_clear_2 : decode cX7_clear 2 = .ok (.putfield 27, 3) := by decide +kernel
theorem dX7_clear_5 : decode cX7_clear 5 = .ok (.aload_n 0, 1) := by decide +kernel
theorem dX7_clear_6 : decode cX7_clear 6 = .ok (.getfield 9, 3) := by decide +kernel
theorem dX7_clear_9 : decode cX7_clear 9 = .ok (.iconst 0, 1) := by decide +kernel
theorem dX7_clear_10 : decode cX7_clear 10 = .ok (.invokestatic 31, 3) := by decide +kernel
theorem dX7_clear_13 : decode cX7_clear 13 = .ok (.aload_n 0, 1) := by decide +kernel
theorem dX7_clear_14 : decode cX7_clear 14 = .ok (.getfield 15, 3) := by decide +kernel
theorem dX7_clear_17 : decode cX7_clear 17 = .ok (.iconst 0, 1) := by decide +kernel
theorem dX7_clear_18 : decode cX7_clear 18 = .ok (.invokestatic 31, 3) := by decide +kernel
theorem dX7_clear_21 : decode cX7_clear 21 = .ok (.aload_n 0, 1) := by decide +kernel
theorem dX7_clear_22 : decode cX7_clear 22 = .ok (.getfield 18, 3) := by decide +kernel
theorem dX7_clear_25 : decode cX7_clear 25 = .ok (.iconst 0, 1) := by decide +kernel
theorem dX7_clear_26 : decode cX7_clear 26 = .ok (.invokestatic 31, 3) := by decide +kernel
theorem dX7_clear_29 : decode cX7_clear 29 = .ok (.aload_n 0, 1) := by decide +kernel
theorem dX7_clear_30 : decode cX7_clear 30 = .ok (.getfield 21, 3) := by decide +kernel
theorem dX7_clear_33 : decode cX7_clear 33 = .ok (.iconst 0, 1) := by decide +kernel
theorem dX7_clear_34 : decode cX7_clear 34 = .ok (.invokestatic 31, 3) := by decide +kernel
theorem dX7_clear_37 : decode cX7_clear 37 = .ok (.aload_n 0, 1) := by decide +kernel
theorem dX7_clear_38 : decode cX7_clear 38 = .ok (.getfield 24, 3) := by decide +kernel
theorem dX7_clear_41 : decode cX7_clear 41 = .ok (.bipush (-2), 2) := by decide +kernel
theorem dX7_clear_43 : decode cX7_clear 43 = .ok (.invokestatic 31, 3) := by decide +kernel
theorem dX7_clear_46 : decode cX7_clear 46 = .ok (.return_, 1) := by decide +kernel
theorem dX7_copyFrom_0 : decode cX7_copyFrom 0 = .ok (.aload_n 0, 1) := by decide +kernel
theorem dX7_copyFrom_1 : decode cX7_copyFrom 1 = .ok (.aload_n 1, 1) := by decide +kernel
theorem dX7_copyFrom_2 : decode cX7_copyFrom 2 = .ok (.getfield 27, 3) := by decide +kernel
theorem dX7_copyFrom_5 : decode cX7_copyFrom 5 = .ok (.putfield 27, 3) := by decide +kernel
theorem dX7_copyFrom_8 : decode cX7_copyFrom 8 = .ok (.aload_n 1, 1) := by decide +kernel
theorem dX7_copyFrom_9 : decode cX7_copyFrom 9 = .ok (.getfield 9, 3) := by decide +kernel
theorem dX7_copyFrom_12 : decode cX7_copyFrom 12 = .ok (.iconst 0, 1) := by decide +kernel
theorem dX7_copyFrom_13 : decode cX7_copyFrom 13 = .ok (.aload_n 0, 1) := by decide +kernel
theorem dX7_copyFrom_14 : decode cX7_copyFrom 14 = .ok (.getfield 9, 3) := by decide +kernel
theorem dX7_copyFrom_17 : decode cX7_copyFrom 17 = .ok (.iconst 0, 1) := by decide +kernel
theorem dX7_copyFrom_18 : decode cX7_copyFrom 18 = .ok (.bipush 24, 2) := by decide +kernel
theorem dX7_copyFrom_20 : decode cX7_copyFrom 20 = .ok (.invokestatic 37, 3) := by decide +kernel
theorem dX7_copyFrom_23 : decode cX7_copyFrom 23 = .ok (.aload_n 1, 1) := by decide +kernel
theorem dX7_copyFrom_24 : decode cX7_copyFrom 24 = .ok (.getfield 15, 3) := by decide +kernel
theorem dX7_copyFrom_27 : decode cX7_copyFrom 27 = .ok (.iconst 0, 1) := by decide +kernel
theorem dX7_copyFrom_28 : decode cX7_copyFrom 28 = .ok (.aload_n 0, 1) := by decide +kernel
theorem dX7_copyFrom_29 : decode cX7_copyFrom 29 = .ok (.getfield 15, 3) := by decide +kernel
theorem dX7_copyFrom_32 : decode cX7_copyFrom 32 = .ok (.iconst 0, 1) := by decide +kernel
theorem dX7_copyFrom_33 : decode cX7_copyFrom 33 = .ok (.bipush 24, 2) := by decide +kernel
theorem dX7_copyFrom_35 : decode cX7_copyFrom 35 = .ok (.invokestatic 37, 3) := by decide +kernel
theorem dX7_copyFrom_38 : decode cX7_copyFrom 38 = .ok (.aload_n 1, 1) := by decide +kernel
theorem dX7_copyFrom_39 : decode cX7_copyFrom 39 = .ok (.getfield 18, 3) := by decide +kernel
theorem dX7_copyFrom_42 : decode cX7_copyFrom 42 = .ok (.iconst 0, 1) := by decide +kernel
theorem dX7_copyFrom_43 : decode cX7_copyFrom 43 = .ok (.aload_n 0, 1) := by decide +kernel
theorem dX7_copyFrom_44 : decode cX7_copyFrom 44 = .ok (.getfield 18, 3) := by decide +kernel
theorem dX7_copyFrom_47 : decode cX7_copyFrom 47 = .ok (.iconst 0, 1) := by decide +kernel
theorem dX7_copyFrom_48 : decode cX7_copyFrom 48 = .ok (.bipush 24, 2) := by decide +kernel
theorem dX7_copyFrom_50 : decode cX7_copyFrom 50 = .ok (.invokestatic 37, 3) := by decide +kernel
theorem dX7_copyFrom_53 : decode cX7_copyFrom 53 = .ok (.aload_n 1, 1) := by decide +kernel
theorem dX7_copyFrom_54 : decode cX7_copyFrom 54 = .ok (.getfield 21, 3) := by decide +kernel
theorem dX7_copyFrom_57 : decode cX7_copyFrom 57 = .ok (.iconst 0, 1) := by decide +kernel
theorem dX7_copyFrom_58 : decode cX7_copyFrom 58 = .ok (.aload_n 0, 1) := by decide +kernel
theorem dX7_copyFrom_59 : decode cX7_copyFrom 59 = .ok (.getfield 21, 3) := by decide +kernel
theorem dX7_copyFrom_62 : decode cX7_copyFrom 62 = .ok (.iconst 0, 1) := by decide +kernel
theorem dX7_copyFrom_63 : decode cX7_copyFrom 63 = .ok (.bipush 24, 2) := by decide +kernel
theorem dX7_copyFrom_65 : decode cX7_copyFrom 65 = .ok (.invokestatic 37, 3) := by decide +kernel
theorem dX7_copyFrom_68 : decode cX7_copyFrom 68 = .ok (.aload_n 1, 1) := by decide +kernel
theorem dX7_copyFrom_69 : decode cX7_copyFrom 69 = .ok (.getfield 24, 3) := by decide +kernel
theorem dX7_copyFrom_72 : decode cX7_copyFrom 72 = .ok (.iconst 0, 1) := by decide +kernel
theorem dX7_copyFrom_73 : decode cX7_copyFrom 73 = .ok (.aload_n 0, 1) := by decide +kernel
theorem dX7_copyFrom_74 : decode cX7_copyFrom 74 = .ok (.getfield 24, 3) := by decide +kernel
theorem dX7_copyFrom_77 : decode cX7_copyFrom 77 = .ok (.iconst 0, 1) := by decide +kernel
theorem dX7_copyFrom_78 : decode cX7_copyFrom 78 = .ok (.sipush 384, 3) := by decide +kernel
theorem dX7_copyFrom_81 : decode cX7_copyFrom 81 = .ok (.invokestatic 37, 3) := by decide +kernel
theorem dX7_copyFrom_84 : decode cX7_copyFrom 84 = .ok (.return_, 1) := by decide +kernel
theorem dX7_has_0 : decode cX7_has 0 = .ok (.iload_n 1, 1) := by decide +kernel
theorem dX7_has_1 : decode cX7_has 1 = .ok (.ifCond .lt 22, 3) := by decide +kernel
theorem dX7_has_4 : decode cX7_has 4 = .ok (.iload_n 1, 1) := by decide +kernel
theorem dX7_has_5 : decode cX7_has 5 = .ok (.bipush 24, 2) := by decide +kernel
theorem dX7_has_7 : decode cX7_has 7 = .ok (.if_icmp .ge 16, 3) := by decide +kernel
theorem dX7_has_10 : decode cX7_has 10 = .ok (.aload_n 0, 1) := by decide +kernel
theorem dX7_has_11 : decode cX7_has 11 = .ok (.getfield 9, 3) := by decide +kernel
theorem dX7_has_14 : decode cX7_has 14 = .ok (.iload_n 1, 1) := by decide +kernel
theorem dX7_has_15 : decode cX7_has 15 = .ok (.iaload, 1) := by decide +kernel
theorem dX7_has_16 : decode cX7_has 16 = .ok (.ifCond .le 7, 3) := by decide +kernel
theorem dX7_has_19 : decode cX7_has 19 = .ok (.iconst 1, 1) := by decide +kernel
theorem dX7_has_20 : decode cX7_has 20 = .ok (.goto 4, 3) := by decide +kernel
theorem dX7_has_23 : decode cX7_has 23 = .ok (.iconst 0, 1) := by decide +kernel
theorem dX7_has_24 : decode cX7_has 24 = .ok (.ireturn, 1) := by decide +kernel
theorem dX7_countAll_0 : decode cX7_countAll 0 = .ok (.iconst 0, 1) := by decide +kernel
theorem dX7_countAll_1 : decode cX7_countAll 1 = .ok (.istore_n 1, 1) := by decide +kernel
theorem dX7_countAll_2 : decode cX7_countAll 2 = .ok (.iconst 0, 1) := by decide +kernel
theorem dX7_countAll_3 : decode cX7_countAll 3 = .ok (.istore_n 2, 1) := by decide +kernel
theorem dX7_countAll_4 : decode cX7_countAll 4 = .ok (.iload_n 2, 1) := by decide +kernel
theorem dX7_countAll_5 : decode cX7_countAll 5 = .ok (.bipush 24, 2) := by decide +kernel
theorem dX7_countAll_7 : decode cX7_countAll 7 = .ok (.if_icmp .ge 26, 3) := by decide +kernel
theorem dX7_countAll_10 : decode cX7_countAll 10 = .ok (.iload_n 1, 1) := by decide +kernel
theorem dX7_countAll_11 : decode cX7_countAll 11 = .ok (.aload_n 0, 1) := by decide +kernel
theorem dX7_countAll_12 : decode cX7_countAll 12 = .ok (.getfield 9, 3) := by decide +kernel
theorem dX7_countAll_15 : decode cX7_countAll 15 = .ok (.iload_n 2, 1) := by decide +kernel
theorem dX7_countAll_16 : decode cX7_countAll 16 = .ok (.iaload, 1) := by decide +kernel
theorem dX7_countAll_17 : decode cX7_countAll 17 = .ok (.ifCond .le 7, 3) := by decide +kernel
theorem dX7_countAll_20 : decode cX7_countAll 20 = .ok (.iconst 1, 1) := by decide +kernel
theorem dX7_countAll_21 : decode cX7_countAll 21 = .ok (.goto 4, 3) := by decide +kernel
theorem dX7_countAll_24 : decode cX7_countAll 24 = .ok (.iconst 0, 1) := by decide +kernel
theorem dX7_countAll_25 : decode cX7_countAll 25 = .ok (.iadd, 1) := by decide +kernel
theorem dX7_countAll_26 : decode cX7_countAll 26 = .ok (.istore_n 1, 1) := by decide +kernel
theorem dX7_countAll_27 : decode cX7_countAll 27 = .ok (.iinc 2 1, 3) := by decide +kernel
theorem dX7_countAll_30 : decode cX7_countAll 30 = .ok (.goto (-26), 3) := by decide +kernel
theorem dX7_countAll_33 : decode cX7_countAll 33 = .ok (.iload_n 1, 1) := by decide +kernel
theorem dX7_countAll_34 : decode cX7_countAll 34 = .ok (.ireturn, 1) := by decide +kernel
theorem dX7_countOf_0 : decode cX7_countOf 0 = .ok (.iconst 0, 1) := by decide +kernel
theorem dX7_countOf_1 : decode cX7_countOf 1 = .ok (.istore_n 2, 1) := by decide +kernel
theorem dX7_countOf_2 : decode cX7_countOf 2 = .ok (.iconst 0, 1) := by decide +kernel
theorem dX7_countOf_3 : decode cX7_countOf 3 = .ok (.istore_n 3, 1) := by decide +kernel
theorem dX7_countOf_4 : decode cX7_countOf 4 = .ok (.iload_n 3, 1) := by decide +kernel
theorem dX7_countOf_5 : decode cX7_countOf 5 = .ok (.bipush 24, 2) := by decide +kernel
theorem dX7_countOf_7 : decode cX7_countOf 7 = .ok (.if_icmp .ge 27, 3) := by decide +kernel
theorem dX7_countOf_10 : decode cX7_countOf 10 = .ok (.iload_n 2, 1) := by decide +kernel
theorem dX7_countOf_11 : decode cX7_countOf 11 = .ok (.aload_n 0, 1) := by decide +kernel
theorem dX7_countOf_12 : decode cX7_countOf 12 = .ok (.getfield 9, 3) := by decide +kernel
theorem dX7_countOf_15 : decode cX7_countOf 15 = .ok (.iload_n 3, 1) := by decide +kernel
theorem dX7_countOf_16 : decode cX7_countOf 16 = .ok (.iaload, 1) := by decide +kernel
theorem dX7_countOf_17 : decode cX7_countOf 17 = .ok (.iload_n 1, 1) := by decide +kernel
theorem dX7_countOf_18 : decode cX7_countOf 18 = .ok (.if_icmp .ne 7, 3) := by decide +kernel
theorem dX7_countOf_21 : decode cX7_countOf 21 = .ok (.iconst 1, 1) := by decide +kernel
theorem dX7_countOf_22 : decode cX7_countOf 22 = .ok (.goto 4, 3) := by decide +kernel
theorem dX7_countOf_25 : decode cX7_countOf 25 = .ok (.iconst 0, 1) := by decide +kernel
theorem dX7_countOf_26 : decode cX7_countOf 26 = .ok (.iadd, 1) := by decide +kernel
theorem dX7_countOf_27 : decode cX7_countOf 27 = .ok (.istore_n 2, 1) := by decide +kernel
theorem dX7_countOf_28 : decode cX7_countOf 28 = .ok (.iinc 3 1, 3) := by decide +kernel
theorem dX7_countOf_31 : decode cX7_countOf 31 = .ok (.goto (-27), 3) := by decide +kernel
theorem dX7_countOf_34 : decode cX7_countOf 34 = .ok (.iload_n 2, 1) := by decide +kernel
theorem dX7_countOf_35 : decode cX7_countOf 35 = .ok (.ireturn, 1) := by decide +kernel
theorem dX7_pagesOf_0 : decode cX7_pagesOf 0 = .ok (.iconst 0, 1) := by decide +kernel
theorem dX7_pagesOf_1 : decode cX7_pagesOf 1 = .ok (.istore_n 2, 1) := by decide +kernel
theorem dX7_pagesOf_2 : decode cX7_pagesOf 2 = .ok (.iconst 0, 1) := by decide +kernel
theorem dX7_pagesOf_3 : decode cX7_pagesOf 3 = .ok (.istore_n 3, 1) := by decide +kernel
theorem dX7_pagesOf_4 : decode cX7_pagesOf 4 = .ok (.iload_n 3, 1) := by decide +kernel
theorem dX7_pagesOf_5 : decode cX7_pagesOf 5 = .ok (.bipush 24, 2) := by decide +kernel
theorem dX7_pagesOf_7 : decode cX7_pagesOf 7 = .ok (.if_icmp .ge 32, 3) := by decide +kernel
theorem dX7_pagesOf_10 : decode cX7_pagesOf 10 = .ok (.iload_n 2, 1) := by decide +kernel
theorem dX7_pagesOf_11 : decode cX7_pagesOf 11 = .ok (.aload_n 0, 1) := by decide +kernel
theorem dX7_pagesOf_12 : decode cX7_pagesOf 12 = .ok (.getfield 9, 3) := by decide +kernel
theorem dX7_pagesOf_15 : decode cX7_pagesOf 15 = .ok (.iload_n 3, 1) := by decide +kernel
theorem dX7_pagesOf_16 : decode cX7_pagesOf 16 = .ok (.iaload, 1) := by decide +kernel
theorem dX7_pagesOf_17 : decode cX7_pagesOf 17 = .ok (.iload_n 1, 1) := by decide +kernel
theorem dX7_pagesOf_18 : decode cX7_pagesOf 18 = .ok (.if_icmp .ne 12, 3) := by decide +kernel
theorem dX7_pagesOf_21 : decode cX7_pagesOf 21 = .ok (.aload_n 0, 1) := by decide +kernel
theorem dX7_pagesOf_22 : decode cX7_pagesOf 22 = .ok (.getfield 21, 3) := by decide +kernel
theorem dX7_pagesOf_25 : decode cX7_pagesOf 25 = .ok (.iload_n 3, 1) := by decide +kernel
theorem dX7_pagesOf_26 : decode cX7_pagesOf 26 = .ok (.iaload, 1) := by decide +kernel
theorem dX7_pagesOf_27 : decode cX7_pagesOf 27 = .ok (.goto 4, 3) := by decide +kernel
theorem dX7_pagesOf_30 : decode cX7_pagesOf 30 = .ok (.iconst 0, 1) := by decide +kernel
theorem dX7_pagesOf_31 : decode cX7_pagesOf 31 = .ok (.iadd, 1) := by decide +kernel
theorem dX7_pagesOf_32 : decode cX7_pagesOf 32 = .ok (.istore_n 2, 1) := by decide +kernel
theorem dX7_pagesOf_33 : decode cX7_pagesOf 33 = .ok (.iinc 3 1, 3) := by decide +kernel
theorem dX7_pagesOf_36 : decode cX7_pagesOf 36 = .ok (.goto (-32), 3) := by decide +kernel
theorem dX7_pagesOf_39 : decode cX7_pagesOf 39 = .ok (.iload_n 2, 1) := by decide +kernel
theorem dX7_pagesOf_40 : decode cX7_pagesOf 40 = .ok (.ireturn, 1) := by decide +kernel
theorem dX7_freeNumber_0 : decode cX7_freeNumber 0 = .ok (.iconst 0, 1) := by decide +kernel
theorem dX7_freeNumber_1 : decode cX7_freeNumber 1 = .ok (.istore_n 1, 1) := by decide +kernel
theorem dX7_freeNumber_2 : decode cX7_freeNumber 2 = .ok (.iload_n 1, 1) := by decide +kernel
theorem dX7_freeNumber_3 : decode cX7_freeNumber 3 = .ok (.bipush 24, 2) := by decide +kernel
theorem dX7_freeNumber_5 : decode cX7_freeNumber 5 = .ok (.if_icmp .ge 20, 3) := by decide +kernel
theorem dX7_freeNumber_8 : decode cX7_freeNumber 8 = .ok (.aload_n 0, 1) := by decide +kernel
theorem dX7_freeNumber_9 : decode cX7_freeNumber 9 = .ok (.getfield 9, 3) := by decide +kernel
theorem dX7_freeNumber_12 : decode cX7_freeNumber 12 = .ok (.iload_n 1, 1) := by decide +kernel
theorem dX7_freeNumber_13 : decode cX7_freeNumber 13 = .ok (.iaload, 1) := by decide +kernel
theorem dX7_freeNumber_14 : decode cX7_freeNumber 14 = .ok (.ifCond .ne 5, 3) := by decide +kernel
theorem dX7_freeNumber_17 : decode cX7_freeNumber 17 = .ok (.iload_n 1, 1) := by decide +kernel
theorem dX7_freeNumber_18 : decode cX7_freeNumber 18 = .ok (.ireturn, 1) := by decide +kernel
theorem dX7_freeNumber_19 : decode cX7_freeNumber 19 = .ok (.iinc 1 1, 3) := by decide +kernel
theorem dX7_freeNumber_22 : decode cX7_freeNumber 22 = .ok (.goto (-20), 3) := by decide +kernel
theorem dX7_freeNumber_25 : decode cX7_freeNumber 25 = .ok (.iconst (-1), 1) := by decide +kernel
theorem dX7_freeNumber_26 : decode cX7_freeNumber 26 = .ok (.ireturn, 1) := by decide +kernel
theorem dX7_fullest_0 : decode cX7_fullest 0 = .ok (.iconst (-1), 1) := by decide +kernel
theorem dX7_fullest_1 : decode cX7_fullest 1 = .ok (.istore_n 3, 1) := by decide +kernel
theorem dX7_fullest_2 : decode cX7_fullest 2 = .ok (.iconst 0, 1) := by decide +kernel
theorem dX7_fullest_3 : decode cX7_fullest 3 = .ok (.istore 4, 2) := by decide +kernel
theorem dX7_fullest_5 : decode cX7_fullest 5 = .ok (.iload 4, 2) := by decide +kernel
theorem dX7_fullest_7 : decode cX7_fullest 7 = .ok (.bipush 24, 2) := by decide +kernel
theorem dX7_fullest_9 : decode cX7_fullest 9 = .ok (.if_icmp .ge 48, 3) := by decide +kernel
theorem dX7_fullest_12 : decode cX7_fullest 12 = .ok (.iload 4, 2) := by decide +kernel
theorem dX7_fullest_14 : decode cX7_fullest 14 = .ok (.iload_n 2, 1) := by decide +kernel
theorem dX7_fullest_15 : decode cX7_fullest 15 = .ok (.if_icmp .eq 36, 3) := by decide +kernel
theorem dX7_fullest_18 : decode cX7_fullest 18 = .ok (.aload_n 0, 1) := by decide +kernel
theorem dX7_fullest_19 : decode cX7_fullest 19 = .ok (.iload 4, 2) := by decide +kernel
theorem dX7_fullest_21 : decode cX7_fullest 21 = .ok (.iload_n 1, 1) := by decide +kernel
theorem dX7_fullest_22 : decode cX7_fullest 22 = .ok (.invokevirtual 43, 3) := by decide +kernel
theorem dX7_fullest_25 : decode cX7_fullest 25 = .ok (.ifCond .eq 26, 3) := by decide +kernel
theorem dX7_fullest_28 : decode cX7_fullest 28 = .ok (.iload_n 3, 1) := by decide +kernel
theorem dX7_fullest_29 : decode cX7_fullest 29 = .ok (.ifCond .lt 19, 3) := by decide +kernel
theorem dX7_fullest_32 : decode cX7_fullest 32 = .ok (.aload_n 0, 1) := by decide +kernel
theorem dX7_fullest_33 : decode cX7_fullest 33 = .ok (.getfield 21, 3) := by decide +kernel
theorem dX7_fullest_36 : decode cX7_fullest 36 = .ok (.iload 4, 2) := by decide +kernel
theorem dX7_fullest_38 : decode cX7_fullest 38 = .ok (.iaload, 1) := by decide +kernel
theorem dX7_fullest_39 : decode cX7_fullest 39 = .ok (.aload_n 0, 1) := by decide +kernel
theorem dX7_fullest_40 : decode cX7_fullest 40 = .ok (.getfield 21, 3) := by decide +kernel
theorem dX7_fullest_43 : decode cX7_fullest 43 = .ok (.iload_n 3, 1) := by decide +kernel
theorem dX7_fullest_44 : decode cX7_fullest 44 = .ok (.iaload, 1) := by decide +kernel
theorem dX7_fullest_45 : decode cX7_fullest 45 = .ok (.if_icmp .le 6, 3) := by decide +kernel
theorem dX7_fullest_48 : decode cX7_fullest 48 = .ok (.iload 4, 2) := by decide +kernel
theorem dX7_fullest_50 : decode cX7_fullest 50 = .ok (.istore_n 3, 1) := by decide +kernel
theorem dX7_fullest_51 : decode cX7_fullest 51 = .ok (.iinc 4 1, 3) := by decide +kernel
theorem dX7_fullest_54 : decode cX7_fullest 54 = .ok (.goto (-49), 3) := by decide +kernel
theorem dX7_fullest_57 : decode cX7_fullest 57 = .ok (.iload_n 3, 1) := by decide +kernel
theorem dX7_fullest_58 : decode cX7_fullest 58 = .ok (.ireturn, 1) := by decide +kernel
theorem dX7_emptiest_0 : decode cX7_emptiest 0 = .ok (.iconst (-1), 1) := by decide +kernel
theorem dX7_emptiest_1 : decode cX7_emptiest 1 = .ok (.istore_n 2, 1) := by decide +kernel
theorem dX7_emptiest_2 : decode cX7_emptiest 2 = .ok (.iconst 0, 1) := by decide +kernel
theorem dX7_emptiest_3 : decode cX7_emptiest 3 = .ok (.istore_n 3, 1) := by decide +kernel
theorem dX7_emptiest_4 : decode cX7_emptiest 4 = .ok (.iload_n 3, 1) := by decide +kernel
theorem dX7_emptiest_5 : decode cX7_emptiest 5 = .ok (.bipush 24, 2) := by decide +kernel
theorem dX7_emptiest_7 : decode cX7_emptiest 7 = .ok (.if_icmp .ge 39, 3) := by decide +kernel
theorem dX7_emptiest_10 : decode cX7_emptiest 10 = .ok (.aload_n 0, 1) := by decide +kernel
theorem dX7_emptiest_11 : decode cX7_emptiest 11 = .ok (.iload_n 3, 1) := by decide +kernel
theorem dX7_emptiest_12 : decode cX7_emptiest 12 = .ok (.iload_n 1, 1) := by decide +kernel
theorem dX7_emptiest_13 : decode cX7_emptiest 13 = .ok (.invokevirtual 43, 3) := by decide +kernel
theorem dX7_emptiest_16 : decode cX7_emptiest 16 = .ok (.ifCond .eq 24, 3) := by decide +kernel
theorem dX7_emptiest_19 : decode cX7_emptiest 19 = .ok (.iload_n 2, 1) := by decide +kernel
theorem dX7_emptiest_20 : decode cX7_emptiest 20 = .ok (.ifCond .lt 18, 3) := by decide +kernel
theorem dX7_emptiest_23 : decode cX7_emptiest 23 = .ok (.aload_n 0, 1) := by decide +kernel
theorem dX7_emptiest_24 : decode cX7_emptiest 24 = .ok (.getfield 21, 3) := by decide +kernel
theorem dX7_emptiest_27 : decode cX7_emptiest 27 = .ok (.iload_n 3, 1) := by decide +kernel
theorem dX7_emptiest_28 : decode cX7_emptiest 28 = .ok (.iaload, 1) := by decide +kernel
theorem dX7_emptiest_29 : decode cX7_emptiest 29 = .ok (.aload_n 0, 1) := by decide +kernel
theorem dX7_emptiest_30 : decode cX7_emptiest 30 = .ok (.getfield 21, 3) := by decide +kernel
theorem dX7_emptiest_33 : decode cX7_emptiest 33 = .ok (.iload_n 2, 1) := by decide +kernel
theorem dX7_emptiest_34 : decode cX7_emptiest 34 = .ok (.iaload, 1) := by decide +kernel
theorem dX7_emptiest_35 : decode cX7_emptiest 35 = .ok (.if_icmp .gt 5, 3) := by decide +kernel
theorem dX7_emptiest_38 : decode cX7_emptiest 38 = .ok (.iload_n 3, 1) := by decide +kernel
theorem dX7_emptiest_39 : decode cX7_emptiest 39 = .ok (.istore_n 2, 1) := by decide +kernel
theorem dX7_emptiest_40 : decode cX7_emptiest 40 = .ok (.iinc 3 1, 3) := by decide +kernel
theorem dX7_emptiest_43 : decode cX7_emptiest 43 = .ok (.goto (-39), 3) := by decide +kernel
theorem dX7_emptiest_46 : decode cX7_emptiest 46 = .ok (.iload_n 2, 1) := by decide +kernel
theorem dX7_emptiest_47 : decode cX7_emptiest 47 = .ok (.ireturn, 1) := by decide +kernel
theorem dX7_lastPage_0 : decode cX7_lastPage 0 = .ok (.bipush 15, 2) := by decide +kernel
theorem dX7_lastPage_2 : decode cX7_lastPage 2 = .ok (.istore_n 2, 1) := by decide +kernel
theorem dX7_lastPage_3 : decode cX7_lastPage 3 = .ok (.iload_n 2, 1) := by decide +kernel
theorem dX7_lastPage_4 : decode cX7_lastPage 4 = .ok (.ifCond .lt 43, 3) := by decide +kernel
theorem dX7_lastPage_7 : decode cX7_lastPage 7 = .ok (.aload_n 0, 1) := by decide +kernel
theorem dX7_lastPage_8 : decode cX7_lastPage 8 = .ok (.iload_n 1, 1) := by decide +kernel
theorem dX7_lastPage_9 : decode cX7_lastPage 9 = .ok (.invokevirtual 47, 3) := by decide +kernel
theorem dX7_lastPage_12 : decode cX7_lastPage 12 = .ok (.ifCond .eq 35, 3) := by decide +kernel
theorem dX7_lastPage_15 : decode cX7_lastPage 15 = .ok (.aload_n 0, 1) := by decide +kernel
theorem dX7_lastPage_16 : decode cX7_lastPage 16 = .ok (.getfield 24, 3) := by decide +kernel
theorem dX7_lastPage_19 : decode cX7_lastPage 19 = .ok (.iload_n 1, 1) := by decide +kernel
theorem dX7_lastPage_20 : decode cX7_lastPage 20 = .ok (.bipush 16, 2) := by decide +kernel
theorem dX7_lastPage_22 : decode cX7_lastPage 22 = .ok (.imul, 1) := by decide +kernel
theorem dX7_lastPage_23 : decode cX7_lastPage 23 = .ok (.iload_n 2, 1) := by decide +kernel
theorem dX7_lastPage_24 : decode cX7_lastPage 24 = .ok (.iadd, 1) := by decide +kernel
theorem dX7_lastPage_25 : decode cX7_lastPage 25 = .ok (.iaload, 1) := by decide +kernel
theorem dX7_lastPage_26 : decode cX7_lastPage 26 = .ok (.ifCond .lt 15, 3) := by decide +kernel
theorem dX7_lastPage_29 : decode cX7_lastPage 29 = .ok (.aload_n 0, 1) := by decide +kernel
theorem dX7_lastPage_30 : decode cX7_lastPage 30 = .ok (.getfield 24, 3) := by decide +kernel
theorem dX7_lastPage_33 : decode cX7_lastPage 33 = .ok (.iload_n 1, 1) := by decide +kernel
theorem dX7_lastPage_34 : decode cX7_lastPage 34 = .ok (.bipush 16, 2) := by decide +kernel
theorem dX7_lastPage_36 : decode cX7_lastPage 36 = .ok (.imul, 1) := by decide +kernel
theorem dX7_lastPage_37 : decode cX7_lastPage 37 = .ok (.iload_n 2, 1) := by decide +kernel
theorem dX7_lastPage_38 : decode cX7_lastPage 38 = .ok (.iadd, 1) := by decide +kernel
theorem dX7_lastPage_39 : decode cX7_lastPage 39 = .ok (.iaload, 1) := by decide +kernel
theorem dX7_lastPage_40 : decode cX7_lastPage 40 = .ok (.ireturn, 1) := by decide +kernel
theorem dX7_lastPage_41 : decode cX7_lastPage 41 = .ok (.iinc 2 (-1), 3) := by decide +kernel
theorem dX7_lastPage_44 : decode cX7_lastPage 44 = .ok (.goto (-41), 3) := by decide +kernel
theorem dX7_lastPage_47 : decode cX7_lastPage 47 = .ok (.iconst (-1), 1) := by decide +kernel
theorem dX7_lastPage_48 : decode cX7_lastPage 48 = .ok (.ireturn, 1) := by decide +kernel
theorem dX7_putIn_0 : decode cX7_putIn 0 = .ok (.iload_n 1, 1) := by decide +kernel
theorem dX7_putIn_1 : decode cX7_putIn 1 = .ok (.ifCond .lt 9, 3) := by decide +kernel
theorem dX7_putIn_4 : decode cX7_putIn 4 = .ok (.iload_n 1, 1) := by decide +kernel
theorem dX7_putIn_5 : decode cX7_putIn 5 = .ok (.bipush 24, 2) := by decide +kernel
theorem dX7_putIn_7 : decode cX7_putIn 7 = .ok (.if_icmp .lt 5, 3) := by decide +kernel
theorem dX7_putIn_10 : decode cX7_putIn 10 = .ok (.iconst (-1), 1) := by decide +kernel
theorem dX7_putIn_11 : decode cX7_putIn 11 = .ok (.ireturn, 1) := by decide +kernel
theorem dX7_putIn_12 : decode cX7_putIn 12 = .ok (.aload_n 0, 1) := by decide +kernel
theorem dX7_putIn_13 : decode cX7_putIn 13 = .ok (.getfield 9, 3) := by decide +kernel
theorem dX7_putIn_16 : decode cX7_putIn 16 = .ok (.iload_n 1, 1) := by decide +kernel
theorem dX7_putIn_17 : decode cX7_putIn 17 = .ok (.iaload, 1) := by decide +kernel
theorem dX7_putIn_18 : decode cX7_putIn 18 = .ok (.ifCond .ne 45, 3) := by decide +kernel
theorem dX7_putIn_21 : decode cX7_putIn 21 = .ok (.aload_n 0, 1) := by decide +kernel
theorem dX7_putIn_22 : decode cX7_putIn 22 = .ok (.getfield 9, 3) := by decide +kernel
theorem dX7_putIn_25 : decode cX7_putIn 25 = .ok (.iload_n 1, 1) := by decide +kernel
theorem dX7_putIn_26 : decode cX7_putIn 26 = .ok (.iload_n 2, 1) := by decide +kernel
theorem dX7_putIn_27 : decode cX7_putIn 27 = .ok (.iastore, 1) := by decide +kernel
theorem dX7_putIn_28 : decode cX7_putIn 28 = .ok (.aload_n 0, 1) := by decide +kernel
theorem dX7_putIn_29 : decode cX7_putIn 29 = .ok (.getfield 15, 3) := by decide +kernel
theorem dX7_putIn_32 : decode cX7_putIn 32 = .ok (.iload_n 1, 1) := by decide +kernel
theorem dX7_putIn_33 : decode cX7_putIn 33 = .ok (.iload_n 2, 1) := by decide +kernel
theorem dX7_putIn_34 : decode cX7_putIn 34 = .ok (.invokestatic 51, 3) := by decide +kernel
theorem dX7_putIn_37 : decode cX7_putIn 37 = .ok (.iastore, 1) := by decide +kernel
theorem dX7_putIn_38 : decode cX7_putIn 38 = .ok (.aload_n 0, 1) := by decide +kernel
theorem dX7_putIn_39 : decode cX7_putIn 39 = .ok (.getfield 18, 3) := by decide +kernel
theorem dX7_putIn_42 : decode cX7_putIn 42 = .ok (.iload_n 1, 1) := by decide +kernel
theorem dX7_putIn_43 : decode cX7_putIn 43 = .ok (.iload_n 2, 1) := by decide +kernel
theorem dX7_putIn_44 : decode cX7_putIn 44 = .ok (.invokestatic 57, 3) := by decide +kernel
theorem dX7_putIn_47 : decode cX7_putIn 47 = .ok (.iastore, 1) := by decide +kernel
theorem dX7_putIn_48 : decode cX7_putIn 48 = .ok (.aload_n 0, 1) := by decide +kernel
theorem dX7_putIn_49 : decode cX7_putIn 49 = .ok (.dup, 1) := by decide +kernel
theorem dX7_putIn_50 : decode cX7_putIn 50 = .ok (.getfield 27, 3) := by decide +kernel
theorem dX7_putIn_53 : decode cX7_putIn 53 = .ok (.aload_n 0, 1) := by decide +kernel
theorem dX7_putIn_54 : decode cX7_putIn 54 = .ok (.getfield 15, 3) := by decide +kernel
theorem dX7_putIn_57 : decode cX7_putIn 57 = .ok (.iload_n 1, 1) := by decide +kernel
theorem dX7_putIn_58 : decode cX7_putIn 58 = .ok (.iaload, 1) := by decide +kernel
theorem dX7_putIn_59 : decode cX7_putIn 59 = .ok (.iadd, 1) := by decide +kernel
theorem dX7_putIn_60 : decode cX7_putIn 60 = .ok (.putfield 27, 3) := by decide +kernel
theorem dX7_putIn_63 : decode cX7_putIn 63 = .ok (.iconst 0, 1) := by decide +kernel
theorem dX7_putIn_64 : decode cX7_putIn 64 = .ok (.istore 4, 2) := by decide +kernel
theorem dX7_putIn_66 : decode cX7_putIn 66 = .ok (.iload 4, 2) := by decide +kernel
theorem dX7_putIn_68 : decode cX7_putIn 68 = .ok (.aload_n 0, 1) := by decide +kernel
theorem dX7_putIn_69 : decode cX7_putIn 69 = .ok (.getfield 18, 3) := by decide +kernel
theorem dX7_putIn_72 : decode cX7_putIn 72 = .ok (.iload_n 1, 1) := by decide +kernel
theorem dX7_putIn_73 : decode cX7_putIn 73 = .ok (.iaload, 1) := by decide +kernel
theorem dX7_putIn_74 : decode cX7_putIn 74 = .ok (.if_icmp .ge 57, 3) := by decide +kernel
theorem dX7_putIn_77 : decode cX7_putIn 77 = .ok (.iload 4, 2) := by decide +kernel
theorem dX7_putIn_79 : decode cX7_putIn 79 = .ok (.bipush 16, 2) := by decide +kernel
theorem dX7_putIn_81 : decode cX7_putIn 81 = .ok (.if_icmp .ge 50, 3) := by decide +kernel
theorem dX7_putIn_84 : decode cX7_putIn 84 = .ok (.aload_n 0, 1) := by decide +kernel
theorem dX7_putIn_85 : decode cX7_putIn 85 = .ok (.getfield 24, 3) := by decide +kernel
theorem dX7_putIn_88 : decode cX7_putIn 88 = .ok (.iload_n 1, 1) := by decide +kernel
theorem dX7_putIn_89 : decode cX7_putIn 89 = .ok (.bipush 16, 2) := by decide +kernel
theorem dX7_putIn_91 : decode cX7_putIn 91 = .ok (.imul, 1) := by decide +kernel
theorem dX7_putIn_92 : decode cX7_putIn 92 = .ok (.iload 4, 2) := by decide +kernel
theorem dX7_putIn_94 : decode cX7_putIn 94 = .ok (.iadd, 1) := by decide +kernel
theorem dX7_putIn_95 : decode cX7_putIn 95 = .ok (.iaload, 1) := by decide +kernel
theorem dX7_putIn_96 : decode cX7_putIn 96 = .ok (.ifCond .ge 29, 3) := by decide +kernel
theorem dX7_putIn_99 : decode cX7_putIn 99 = .ok (.aload_n 0, 1) := by decide +kernel
theorem dX7_putIn_100 : decode cX7_putIn 100 = .ok (.getfield 24, 3) := by decide +kernel
theorem dX7_putIn_103 : decode cX7_putIn 103 = .ok (.iload_n 1, 1) := by decide +kernel
theorem dX7_putIn_104 : decode cX7_putIn 104 = .ok (.bipush 16, 2) := by decide +kernel
theorem dX7_putIn_106 : decode cX7_putIn 106 = .ok (.imul, 1) := by decide +kernel
theorem dX7_putIn_107 : decode cX7_putIn 107 = .ok (.iload 4, 2) := by decide +kernel
theorem dX7_putIn_109 : decode cX7_putIn 109 = .ok (.iadd, 1) := by decide +kernel
theorem dX7_putIn_110 : decode cX7_putIn 110 = .ok (.iload_n 3, 1) := by decide +kernel
theorem dX7_putIn_111 : decode cX7_putIn 111 = .ok (.iastore, 1) := by decide +kernel
theorem dX7_putIn_112 : decode cX7_putIn 112 = .ok (.aload_n 0, 1) := by decide +kernel
theorem dX7_putIn_113 : decode cX7_putIn 113 = .ok (.getfield 21, 3) := by decide +kernel
theorem dX7_putIn_116 : decode cX7_putIn 116 = .ok (.iload_n 1, 1) := by decide +kernel
theorem dX7_putIn_117 : decode cX7_putIn 117 = .ok (.dup2, 1) := by decide +kernel
theorem dX7_putIn_118 : decode cX7_putIn 118 = .ok (.iaload, 1) := by decide +kernel
theorem dX7_putIn_119 : decode cX7_putIn 119 = .ok (.iconst 1, 1) := by decide +kernel
theorem dX7_putIn_120 : decode cX7_putIn 120 = .ok (.iadd, 1) := by decide +kernel
theorem dX7_putIn_121 : decode cX7_putIn 121 = .ok (.iastore, 1) := by decide +kernel
theorem dX7_putIn_122 : decode cX7_putIn 122 = .ok (.iload 4, 2) := by decide +kernel
theorem dX7_putIn_124 : decode cX7_putIn 124 = .ok (.ireturn, 1) := by decide +kernel
theorem dX7_putIn_125 : decode cX7_putIn 125 = .ok (.iinc 4 1, 3) := by decide +kernel
theorem dX7_putIn_128 : decode cX7_putIn 128 = .ok (.goto (-62), 3) := by decide +kernel
theorem dX7_putIn_131 : decode cX7_putIn 131 = .ok (.iconst (-1), 1) := by decide +kernel
theorem dX7_putIn_132 : decode cX7_putIn 132 = .ok (.ireturn, 1) := by decide +kernel
theorem dX7_takeOut_0 : decode cX7_takeOut 0 = .ok (.iload_n 1, 1) := by decide +kernel
theorem dX7_takeOut_1 : decode cX7_takeOut 1 = .ok (.ifCond .lt 29, 3) := by decide +kernel
theorem dX7_takeOut_4 : decode cX7_takeOut 4 = .ok (.iload_n 1, 1) := by decide +kernel
theorem dX7_takeOut_5 : decode cX7_takeOut 5 = .ok (.bipush 24, 2) := by decide +kernel
theorem dX7_takeOut_7 : decode cX7_takeOut 7 = .ok (.if_icmp .ge 23, 3) := by decide +kernel
theorem dX7_takeOut_10 : decode cX7_takeOut 10 = .ok (.iload_n 2, 1) := by decide +kernel
theorem dX7_takeOut_11 : decode cX7_takeOut 11 = .ok (.ifCond .lt 19, 3) := by decide +kernel
theorem dX7_takeOut_14 : decode cX7_takeOut 14 = .ok (.iload_n 2, 1) := by decide +kernel
theorem dX7_takeOut_15 : decode cX7_takeOut 15 = .ok (.aload_n 0, 1) := by decide +kernel
theorem dX7_takeOut_16 : decode cX7_takeOut 16 = .ok (.getfield 18, 3) := by decide +kernel
theorem dX7_takeOut_19 : decode cX7_takeOut 19 = .ok (.iload_n 1, 1) := by decide +kernel
theorem dX7_takeOut_20 : decode cX7_takeOut 20 = .ok (.iaload, 1) := by decide +kernel
theorem dX7_takeOut_21 : decode cX7_takeOut 21 = .ok (.if_icmp .ge 9, 3) := by decide +kernel
theorem dX7_takeOut_24 : decode cX7_takeOut 24 = .ok (.iload_n 2, 1) := by decide +kernel
theorem dX7_takeOut_25 : decode cX7_takeOut 25 = .ok (.bipush 16, 2) := by decide +kernel
theorem dX7_takeOut_27 : decode cX7_takeOut 27 = .ok (.if_icmp .lt 4, 3) := by decide +kernel
theorem dX7_takeOut_30 : decode cX7_takeOut 30 = .ok (.return_, 1) := by decide +kernel
theorem dX7_takeOut_31 : decode cX7_takeOut 31 = .ok (.aload_n 0, 1) := by decide +kernel
theorem dX7_takeOut_32 : decode cX7_takeOut 32 = .ok (.getfield 24, 3) := by decide +kernel
theorem dX7_takeOut_35 : decode cX7_takeOut 35 = .ok (.iload_n 1, 1) := by decide +kernel
theorem dX7_takeOut_36 : decode cX7_takeOut 36 = .ok (.bipush 16, 2) := by decide +kernel
theorem dX7_takeOut_38 : decode cX7_takeOut 38 = .ok (.imul, 1) := by decide +kernel
theorem dX7_takeOut_39 : decode cX7_takeOut 39 = .ok (.iload_n 2, 1) := by decide +kernel
theorem dX7_takeOut_40 : decode cX7_takeOut 40 = .ok (.iadd, 1) := by decide +kernel
theorem dX7_takeOut_41 : decode cX7_takeOut 41 = .ok (.bipush (-2), 2) := by decide +kernel
theorem dX7_takeOut_43 : decode cX7_takeOut 43 = .ok (.iastore, 1) := by decide +kernel
theorem dX7_takeOut_44 : decode cX7_takeOut 44 = .ok (.aload_n 0, 1) := by decide +kernel
theorem dX7_takeOut_45 : decode cX7_takeOut 45 = .ok (.getfield 21, 3) := by decide +kernel
theorem dX7_takeOut_48 : decode cX7_takeOut 48 = .ok (.iload_n 1, 1) := by decide +kernel
theorem dX7_takeOut_49 : decode cX7_takeOut 49 = .ok (.dup2, 1) := by decide +kernel
theorem dX7_takeOut_50 : decode cX7_takeOut 50 = .ok (.iaload, 1) := by decide +kernel
theorem dX7_takeOut_51 : decode cX7_takeOut 51 = .ok (.iconst 1, 1) := by decide +kernel
theorem dX7_takeOut_52 : decode cX7_takeOut 52 = .ok (.isub, 1) := by decide +kernel
theorem dX7_takeOut_53 : decode cX7_takeOut 53 = .ok (.iastore, 1) := by decide +kernel
theorem dX7_takeOut_54 : decode cX7_takeOut 54 = .ok (.aload_n 0, 1) := by decide +kernel
theorem dX7_takeOut_55 : decode cX7_takeOut 55 = .ok (.getfield 21, 3) := by decide +kernel
theorem dX7_takeOut_58 : decode cX7_takeOut 58 = .ok (.iload_n 1, 1) := by decide +kernel
theorem dX7_takeOut_59 : decode cX7_takeOut 59 = .ok (.iaload, 1) := by decide +kernel
theorem dX7_takeOut_60 : decode cX7_takeOut 60 = .ok (.ifCond .ne 39, 3) := by decide +kernel
theorem dX7_takeOut_63 : decode cX7_takeOut 63 = .ok (.aload_n 0, 1) := by decide +kernel
theorem dX7_takeOut_64 : decode cX7_takeOut 64 = .ok (.dup, 1) := by decide +kernel
theorem dX7_takeOut_65 : decode cX7_takeOut 65 = .ok (.getfield 27, 3) := by decide +kernel
theorem dX7_takeOut_68 : decode cX7_takeOut 68 = .ok (.aload_n 0, 1) := by decide +kernel
theorem dX7_takeOut_69 : decode cX7_takeOut 69 = .ok (.getfield 15, 3) := by decide +kernel
theorem dX7_takeOut_72 : decode cX7_takeOut 72 = .ok (.iload_n 1, 1) := by decide +kernel
theorem dX7_takeOut_73 : decode cX7_takeOut 73 = .ok (.iaload, 1) := by decide +kernel
theorem dX7_takeOut_74 : decode cX7_takeOut 74 = .ok (.isub, 1) := by decide +kernel
theorem dX7_takeOut_75 : decode cX7_takeOut 75 = .ok (.putfield 27, 3) := by decide +kernel
theorem dX7_takeOut_78 : decode cX7_takeOut 78 = .ok (.aload_n 0, 1) := by decide +kernel
theorem dX7_takeOut_79 : decode cX7_takeOut 79 = .ok (.getfield 9, 3) := by decide +kernel
theorem dX7_takeOut_82 : decode cX7_takeOut 82 = .ok (.iload_n 1, 1) := by decide +kernel
theorem dX7_takeOut_83 : decode cX7_takeOut 83 = .ok (.iconst 0, 1) := by decide +kernel
theorem dX7_takeOut_84 : decode cX7_takeOut 84 = .ok (.iastore, 1) := by decide +kernel
theorem dX7_takeOut_85 : decode cX7_takeOut 85 = .ok (.aload_n 0, 1) := by decide +kernel
theorem dX7_takeOut_86 : decode cX7_takeOut 86 = .ok (.getfield 15, 3) := by decide +kernel
theorem dX7_takeOut_89 : decode cX7_takeOut 89 = .ok (.iload_n 1, 1) := by decide +kernel
theorem dX7_takeOut_90 : decode cX7_takeOut 90 = .ok (.iconst 0, 1) := by decide +kernel
theorem dX7_takeOut_91 : decode cX7_takeOut 91 = .ok (.iastore, 1) := by decide +kernel
theorem dX7_takeOut_92 : decode cX7_takeOut 92 = .ok (.aload_n 0, 1) := by decide +kernel
theorem dX7_takeOut_93 : decode cX7_takeOut 93 = .ok (.getfield 18, 3) := by decide +kernel
theorem dX7_takeOut_96 : decode cX7_takeOut 96 = .ok (.iload_n 1, 1) := by decide +kernel
theorem dX7_takeOut_97 : decode cX7_takeOut 97 = .ok (.iconst 0, 1) := by decide +kernel
theorem dX7_takeOut_98 : decode cX7_takeOut 98 = .ok (.iastore, 1) := by decide +kernel
theorem dX7_takeOut_99 : decode cX7_takeOut 99 = .ok (.return_, 1) := by decide +kernel
theorem dX7_hasRoom_0 : decode cX7_hasRoom 0 = .ok (.aload_n 0, 1) := by decide +kernel
theorem dX7_hasRoom_1 : decode cX7_hasRoom 1 = .ok (.getfield 9, 3) := by decide +kernel
theorem dX7_hasRoom_4 : decode cX7_hasRoom 4 = .ok (.iload_n 1, 1) := by decide +kernel
theorem dX7_hasRoom_5 : decode cX7_hasRoom 5 = .ok (.iaload, 1) := by decide +kernel
theorem dX7_hasRoom_6 : decode cX7_hasRoom 6 = .ok (.iload_n 2, 1) := by decide +kernel
theorem dX7_hasRoom_7 : decode cX7_hasRoom 7 = .ok (.if_icmp .ne 22, 3) := by decide +kernel
theorem dX7_hasRoom_10 : decode cX7_hasRoom 10 = .ok (.aload_n 0, 1) := by decide +kernel
theorem dX7_hasRoom_11 : decode cX7_hasRoom 11 = .ok (.getfield 21, 3) := by decide +kernel
theorem dX7_hasRoom_14 : decode cX7_hasRoom 14 = .ok (.iload_n 1, 1) := by decide +kernel
theorem dX7_hasRoom_15 : decode cX7_hasRoom 15 = .ok (.iaload, 1) := by decide +kernel
theorem dX7_hasRoom_16 : decode cX7_hasRoom 16 = .ok (.aload_n 0, 1) := by decide +kernel
theorem dX7_hasRoom_17 : decode cX7_hasRoom 17 = .ok (.getfield 18, 3) := by decide +kernel
theorem dX7_hasRoom_20 : decode cX7_hasRoom 20 = .ok (.iload_n 1, 1) := by decide +kernel
theorem dX7_hasRoom_21 : decode cX7_hasRoom 21 = .ok (.iaload, 1) := by decide +kernel
theorem dX7_hasRoom_22 : decode cX7_hasRoom 22 = .ok (.if_icmp .ge 7, 3) := by decide +kernel
theorem dX7_hasRoom_25 : decode cX7_hasRoom 25 = .ok (.iconst 1, 1) := by decide +kernel
theorem dX7_hasRoom_26 : decode cX7_hasRoom 26 = .ok (.goto 4, 3) := by decide +kernel
theorem dX7_hasRoom_29 : decode cX7_hasRoom 29 = .ok (.iconst 0, 1) := by decide +kernel
theorem dX7_hasRoom_30 : decode cX7_hasRoom 30 = .ok (.ireturn, 1) := by decide +kernel
