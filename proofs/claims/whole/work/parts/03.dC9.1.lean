theorem dX9_comesInto_16 : decode cX9_comesInto 16 = .ok (.iconst 1, 1) := by decide +kernel
theorem dX9_comesInto_17 : decode cX9_comesInto 17 = .ok (.iadd, 1) := by decide +kernel
theorem dX9_comesInto_18 : decode cX9_comesInto 18 = .ok (.iastore, 1) := by decide +kernel
theorem dX9_comesInto_19 : decode cX9_comesInto 19 = .ok (.aload_n 0, 1) := by decide +kernel
theorem dX9_comesInto_20 : decode cX9_comesInto 20 = .ok (.getfield 35, 3) := by decide +kernel
theorem dX9_comesInto_23 : decode cX9_comesInto 23 = .ok (.sipush 225, 3) := by decide +kernel
theorem dX9_comesInto_26 : decode cX9_comesInto 26 = .ok (.iload_n 1, 1) := by decide +kernel
theorem dX9_comesInto_27 : decode cX9_comesInto 27 = .ok (.iadd, 1) := by decide +kernel
theorem dX9_comesInto_28 : decode cX9_comesInto 28 = .ok (.iload_n 2, 1) := by decide +kernel
theorem dX9_comesInto_29 : decode cX9_comesInto 29 = .ok (.iastore, 1) := by decide +kernel
theorem dX9_comesInto_30 : decode cX9_comesInto 30 = .ok (.aload_n 0, 1) := by decide +kernel
theorem dX9_comesInto_31 : decode cX9_comesInto 31 = .ok (.getfield 35, 3) := by decide +kernel
theorem dX9_comesInto_34 : decode cX9_comesInto 34 = .ok (.sipush 255, 3) := by decide +kernel
theorem dX9_comesInto_37 : decode cX9_comesInto 37 = .ok (.iload_n 1, 1) := by decide +kernel
theorem dX9_comesInto_38 : decode cX9_comesInto 38 = .ok (.iadd, 1) := by decide +kernel
theorem dX9_comesInto_39 : decode cX9_comesInto 39 = .ok (.iload_n 3, 1) := by decide +kernel
theorem dX9_comesInto_40 : decode cX9_comesInto 40 = .ok (.iastore, 1) := by decide +kernel
theorem dX9_comesInto_41 : decode cX9_comesInto 41 = .ok (.aload_n 0, 1) := by decide +kernel
theorem dX9_comesInto_42 : decode cX9_comesInto 42 = .ok (.getfield 35, 3) := by decide +kernel
theorem dX9_comesInto_45 : decode cX9_comesInto 45 = .ok (.sipush 165, 3) := by decide +kernel
theorem dX9_comesInto_48 : decode cX9_comesInto 48 = .ok (.iload_n 1, 1) := by decide +kernel
theorem dX9_comesInto_49 : decode cX9_comesInto 49 = .ok (.iadd, 1) := by decide +kernel
theorem dX9_comesInto_50 : decode cX9_comesInto 50 = .ok (.iconst 2, 1) := by decide +kernel
theorem dX9_comesInto_51 : decode cX9_comesInto 51 = .ok (.iastore, 1) := by decide +kernel
theorem dX9_comesInto_52 : decode cX9_comesInto 52 = .ok (.return_, 1) := by decide +kernel
theorem dX9_leaves_0 : decode cX9_leaves 0 = .ok (.aload_n 0, 1) := by decide +kernel
theorem dX9_leaves_1 : decode cX9_leaves 1 = .ok (.getfield 35, 3) := by decide +kernel
theorem dX9_leaves_4 : decode cX9_leaves 4 = .ok (.sipush 225, 3) := by decide +kernel
theorem dX9_leaves_7 : decode cX9_leaves 7 = .ok (.iload_n 1, 1) := by decide +kernel
theorem dX9_leaves_8 : decode cX9_leaves 8 = .ok (.iadd, 1) := by decide +kernel
theorem dX9_leaves_9 : decode cX9_leaves 9 = .ok (.iaload, 1) := by decide +kernel
theorem dX9_leaves_10 : decode cX9_leaves 10 = .ok (.istore_n 2, 1) := by decide +kernel
theorem dX9_leaves_11 : decode cX9_leaves 11 = .ok (.aload_n 0, 1) := by decide +kernel
theorem dX9_leaves_12 : decode cX9_leaves 12 = .ok (.getfield 35, 3) := by decide +kernel
theorem dX9_leaves_15 : decode cX9_leaves 15 = .ok (.iload_n 2, 1) := by decide +kernel
theorem dX9_leaves_16 : decode cX9_leaves 16 = .ok (.aload_n 0, 1) := by decide +kernel
theorem dX9_leaves_17 : decode cX9_leaves 17 = .ok (.getfield 35, 3) := by decide +kernel
theorem dX9_leaves_20 : decode cX9_leaves 20 = .ok (.sipush 255, 3) := by decide +kernel
theorem dX9_leaves_23 : decode cX9_leaves 23 = .ok (.iload_n 1, 1) := by decide +kernel
theorem dX9_leaves_24 : decode cX9_leaves 24 = .ok (.iadd, 1) := by decide +kernel
theorem dX9_leaves_25 : decode cX9_leaves 25 = .ok (.iaload, 1) := by decide +kernel
theorem dX9_leaves_26 : decode cX9_leaves 26 = .ok (.invokestatic 304, 3) := by decide +kernel
theorem dX9_leaves_29 : decode cX9_leaves 29 = .ok (.iconst 0, 1) := by decide +kernel
theorem dX9_leaves_30 : decode cX9_leaves 30 = .ok (.iastore, 1) := by decide +kernel
theorem dX9_leaves_31 : decode cX9_leaves 31 = .ok (.aload_n 0, 1) := by decide +kernel
theorem dX9_leaves_32 : decode cX9_leaves 32 = .ok (.iload_n 2, 1) := by decide +kernel
theorem dX9_leaves_33 : decode cX9_leaves 33 = .ok (.invokevirtual 307, 3) := by decide +kernel
theorem dX9_leaves_36 : decode cX9_leaves 36 = .ok (.ifCond .ne 14, 3) := by decide +kernel
theorem dX9_leaves_39 : decode cX9_leaves 39 = .ok (.aload_n 0, 1) := by decide +kernel
theorem dX9_leaves_40 : decode cX9_leaves 40 = .ok (.getfield 35, 3) := by decide +kernel
theorem dX9_leaves_43 : decode cX9_leaves 43 = .ok (.sipush 796, 3) := by decide +kernel
theorem dX9_leaves_46 : decode cX9_leaves 46 = .ok (.iload_n 2, 1) := by decide +kernel
theorem dX9_leaves_47 : decode cX9_leaves 47 = .ok (.iadd, 1) := by decide +kernel
theorem dX9_leaves_48 : decode cX9_leaves 48 = .ok (.iconst 0, 1) := by decide +kernel
theorem dX9_leaves_49 : decode cX9_leaves 49 = .ok (.iastore, 1) := by decide +kernel
theorem dX9_leaves_50 : decode cX9_leaves 50 = .ok (.return_, 1) := by decide +kernel
theorem dX9_dropsOne_0 : decode cX9_dropsOne 0 = .ok (.aload_n 0, 1) := by decide +kernel
theorem dX9_dropsOne_1 : decode cX9_dropsOne 1 = .ok (.iload_n 1, 1) := by decide +kernel
theorem dX9_dropsOne_2 : decode cX9_dropsOne 2 = .ok (.invokevirtual 325, 3) := by decide +kernel
theorem dX9_dropsOne_5 : decode cX9_dropsOne 5 = .ok (.iconst 2, 1) := by decide +kernel
theorem dX9_dropsOne_6 : decode cX9_dropsOne 6 = .ok (.if_icmp .ne 13, 3) := by decide +kernel
theorem dX9_dropsOne_9 : decode cX9_dropsOne 9 = .ok (.aload_n 0, 1) := by decide +kernel
theorem dX9_dropsOne_10 : decode cX9_dropsOne 10 = .ok (.iload_n 1, 1) := by decide +kernel
theorem dX9_dropsOne_11 : decode cX9_dropsOne 11 = .ok (.invokevirtual 328, 3) := by decide +kernel
theorem dX9_dropsOne_14 : decode cX9_dropsOne 14 = .ok (.aload_n 0, 1) := by decide +kernel
theorem dX9_dropsOne_15 : decode cX9_dropsOne 15 = .ok (.iload_n 1, 1) := by decide +kernel
theorem dX9_dropsOne_16 : decode cX9_dropsOne 16 = .ok (.invokevirtual 331, 3) := by decide +kernel
theorem dX9_dropsOne_19 : decode cX9_dropsOne 19 = .ok (.aload_n 0, 1) := by decide +kernel
theorem dX9_dropsOne_20 : decode cX9_dropsOne 20 = .ok (.getfield 35, 3) := by decide +kernel
theorem dX9_dropsOne_23 : decode cX9_dropsOne 23 = .ok (.sipush 165, 3) := by decide +kernel
theorem dX9_dropsOne_26 : decode cX9_dropsOne 26 = .ok (.iload_n 1, 1) := by decide +kernel
theorem dX9_dropsOne_27 : decode cX9_dropsOne 27 = .ok (.iadd, 1) := by decide +kernel
theorem dX9_dropsOne_28 : decode cX9_dropsOne 28 = .ok (.iconst 0, 1) := by decide +kernel
theorem dX9_dropsOne_29 : decode cX9_dropsOne 29 = .ok (.iastore, 1) := by decide +kernel
theorem dX9_dropsOne_30 : decode cX9_dropsOne 30 = .ok (.aload_n 0, 1) := by decide +kernel
theorem dX9_dropsOne_31 : decode cX9_dropsOne 31 = .ok (.getfield 35, 3) := by decide +kernel
theorem dX9_dropsOne_34 : decode cX9_dropsOne 34 = .ok (.sipush 1204, 3) := by decide +kernel
theorem dX9_dropsOne_37 : decode cX9_dropsOne 37 = .ok (.iload_n 1, 1) := by decide +kernel
theorem dX9_dropsOne_38 : decode cX9_dropsOne 38 = .ok (.iadd, 1) := by decide +kernel
theorem dX9_dropsOne_39 : decode cX9_dropsOne 39 = .ok (.iconst 0, 1) := by decide +kernel
theorem dX9_dropsOne_40 : decode cX9_dropsOne 40 = .ok (.iastore, 1) := by decide +kernel
theorem dX9_dropsOne_41 : decode cX9_dropsOne 41 = .ok (.return_, 1) := by decide +kernel
theorem dX9_writes_0 : decode cX9_writes 0 = .ok (.aload_n 0, 1) := by decide +kernel
theorem dX9_writes_1 : decode cX9_writes 1 = .ok (.getfield 35, 3) := by decide +kernel
theorem dX9_writes_4 : decode cX9_writes 4 = .ok (.sipush 165, 3) := by decide +kernel
theorem dX9_writes_7 : decode cX9_writes 7 = .ok (.iload_n 1, 1) := by decide +kernel
theorem dX9_writes_8 : decode cX9_writes 8 = .ok (.iadd, 1) := by decide +kernel
theorem dX9_writes_9 : decode cX9_writes 9 = .ok (.iconst 3, 1) := by decide +kernel
theorem dX9_writes_10 : decode cX9_writes 10 = .ok (.iastore, 1) := by decide +kernel
theorem dX9_writes_11 : decode cX9_writes 11 = .ok (.aload_n 0, 1) := by decide +kernel
theorem dX9_writes_12 : decode cX9_writes 12 = .ok (.getfield 35, 3) := by decide +kernel
theorem dX9_writes_15 : decode cX9_writes 15 = .ok (.iconst 1, 1) := by decide +kernel
theorem dX9_writes_16 : decode cX9_writes 16 = .ok (.dup2, 1) := by decide +kernel
theorem dX9_writes_17 : decode cX9_writes 17 = .ok (.iaload, 1) := by decide +kernel
theorem dX9_writes_18 : decode cX9_writes 18 = .ok (.iconst 1, 1) := by decide +kernel
theorem dX9_writes_19 : decode cX9_writes 19 = .ok (.iadd, 1) := by decide +kernel
theorem dX9_writes_20 : decode cX9_writes 20 = .ok (.iastore, 1) := by decide +kernel
theorem dX9_writes_21 : decode cX9_writes 21 = .ok (.return_, 1) := by decide +kernel
theorem dX9_isHeld_0 : decode cX9_isHeld 0 = .ok (.aload_n 0, 1) := by decide +kernel
theorem dX9_isHeld_1 : decode cX9_isHeld 1 = .ok (.getfield 35, 3) := by decide +kernel
theorem dX9_isHeld_4 : decode cX9_isHeld 4 = .ok (.sipush 1204, 3) := by decide +kernel
theorem dX9_isHeld_7 : decode cX9_isHeld 7 = .ok (.iload_n 1, 1) := by decide +kernel
theorem dX9_isHeld_8 : decode cX9_isHeld 8 = .ok (.iadd, 1) := by decide +kernel
theorem dX9_isHeld_9 : decode cX9_isHeld 9 = .ok (.iaload, 1) := by decide +kernel
theorem dX9_isHeld_10 : decode cX9_isHeld 10 = .ok (.iconst 1, 1) := by decide +kernel
theorem dX9_isHeld_11 : decode cX9_isHeld 11 = .ok (.if_icmp .ne 7, 3) := by decide +kernel
theorem dX9_isHeld_14 : decode cX9_isHeld 14 = .ok (.iconst 1, 1) := by decide +kernel
theorem dX9_isHeld_15 : decode cX9_isHeld 15 = .ok (.goto 4, 3) := by decide +kernel
theorem dX9_isHeld_18 : decode cX9_isHeld 18 = .ok (.iconst 0, 1) := by decide +kernel
theorem dX9_isHeld_19 : decode cX9_isHeld 19 = .ok (.ireturn, 1) := by decide +kernel
theorem dX9_coldestFree_0 : decode cX9_coldestFree 0 = .ok (.iconst 0, 1) := by decide +kernel
theorem dX9_coldestFree_1 : decode cX9_coldestFree 1 = .ok (.istore_n 1, 1) := by decide +kernel
theorem dX9_coldestFree_2 : decode cX9_coldestFree 2 = .ok (.iload_n 1, 1) := by decide +kernel
theorem dX9_coldestFree_3 : decode cX9_coldestFree 3 = .ok (.aload_n 0, 1) := by decide +kernel
theorem dX9_coldestFree_4 : decode cX9_coldestFree 4 = .ok (.getfield 35, 3) := by decide +kernel
theorem dX9_coldestFree_7 : decode cX9_coldestFree 7 = .ok (.sipush 315, 3) := by decide +kernel
theorem dX9_coldestFree_10 : decode cX9_coldestFree 10 = .ok (.iaload, 1) := by decide +kernel
theorem dX9_coldestFree_11 : decode cX9_coldestFree 11 = .ok (.if_icmp .ge 37, 3) := by decide +kernel
theorem dX9_coldestFree_14 : decode cX9_coldestFree 14 = .ok (.aload_n 0, 1) := by decide +kernel
theorem dX9_coldestFree_15 : decode cX9_coldestFree 15 = .ok (.aload_n 0, 1) := by decide +kernel
theorem dX9_coldestFree_16 : decode cX9_coldestFree 16 = .ok (.getfield 35, 3) := by decide +kernel
theorem dX9_coldestFree_19 : decode cX9_coldestFree 19 = .ok (.sipush 285, 3) := by decide +kernel
theorem dX9_coldestFree_22 : decode cX9_coldestFree 22 = .ok (.iload_n 1, 1) := by decide +kernel
theorem dX9_coldestFree_23 : decode cX9_coldestFree 23 = .ok (.iadd, 1) := by decide +kernel
theorem dX9_coldestFree_24 : decode cX9_coldestFree 24 = .ok (.iaload, 1) := by decide +kernel
theorem dX9_coldestFree_25 : decode cX9_coldestFree 25 = .ok (.invokevirtual 334, 3) := by decide +kernel
theorem dX9_coldestFree_28 : decode cX9_coldestFree 28 = .ok (.ifCond .ne 14, 3) := by decide +kernel
theorem dX9_coldestFree_31 : decode cX9_coldestFree 31 = .ok (.aload_n 0, 1) := by decide +kernel
theorem dX9_coldestFree_32 : decode cX9_coldestFree 32 = .ok (.getfield 35, 3) := by decide +kernel
theorem dX9_coldestFree_35 : decode cX9_coldestFree 35 = .ok (.sipush 285, 3) := by decide +kernel
theorem dX9_coldestFree_38 : decode cX9_coldestFree 38 = .ok (.iload_n 1, 1) := by decide +kernel
theorem dX9_coldestFree_39 : decode cX9_coldestFree 39 = .ok (.iadd, 1) := by decide +kernel
theorem dX9_coldestFree_40 : decode cX9_coldestFree 40 = .ok (.iaload, 1) := by decide +kernel
theorem dX9_coldestFree_41 : decode cX9_coldestFree 41 = .ok (.ireturn, 1) := by decide +kernel
theorem dX9_coldestFree_42 : decode cX9_coldestFree 42 = .ok (.iinc 1 1, 3) := by decide +kernel
theorem dX9_coldestFree_45 : decode cX9_coldestFree 45 = .ok (.goto (-43), 3) := by decide +kernel
theorem dX9_coldestFree_48 : decode cX9_coldestFree 48 = .ok (.iconst (-1), 1) := by decide +kernel
theorem dX9_coldestFree_49 : decode cX9_coldestFree 49 = .ok (.ireturn, 1) := by decide +kernel
theorem dX9_writesColdest_0 : decode cX9_writesColdest 0 = .ok (.aload_n 0, 1) := by decide +kernel
theorem dX9_writesColdest_1 : decode cX9_writesColdest 1 = .ok (.invokevirtual 337, 3) := by decide +kernel
theorem dX9_writesColdest_4 : decode cX9_writesColdest 4 = .ok (.istore_n 1, 1) := by decide +kernel
theorem dX9_writesColdest_5 : decode cX9_writesColdest 5 = .ok (.aload_n 0, 1) := by decide +kernel
theorem dX9_writesColdest_6 : decode cX9_writesColdest 6 = .ok (.iload_n 1, 1) := by decide +kernel
theorem dX9_writesColdest_7 : decode cX9_writesColdest 7 = .ok (.invokevirtual 328, 3) := by decide +kernel
theorem dX9_writesColdest_10 : decode cX9_writesColdest 10 = .ok (.aload_n 0, 1) := by decide +kernel
theorem dX9_writesColdest_11 : decode cX9_writesColdest 11 = .ok (.iload_n 1, 1) := by decide +kernel
theorem dX9_writesColdest_12 : decode cX9_writesColdest 12 = .ok (.invokevirtual 331, 3) := by decide +kernel
theorem dX9_writesColdest_15 : decode cX9_writesColdest 15 = .ok (.aload_n 0, 1) := by decide +kernel
theorem dX9_writesColdest_16 : decode cX9_writesColdest 16 = .ok (.iload_n 1, 1) := by decide +kernel
theorem dX9_writesColdest_17 : decode cX9_writesColdest 17 = .ok (.invokevirtual 340, 3) := by decide +kernel
theorem dX9_writesColdest_20 : decode cX9_writesColdest 20 = .ok (.iload_n 1, 1) := by decide +kernel
theorem dX9_writesColdest_21 : decode cX9_writesColdest 21 = .ok (.ireturn, 1) := by decide +kernel
theorem dX9_countsPushed_0 : decode cX9_countsPushed 0 = .ok (.aload_n 0, 1) := by decide +kernel
theorem dX9_countsPushed_1 : decode cX9_countsPushed 1 = .ok (.getfield 72, 3) := by decide +kernel
theorem dX9_countsPushed_4 : decode cX9_countsPushed 4 = .ok (.aload_n 0, 1) := by decide +kernel
theorem dX9_countsPushed_5 : decode cX9_countsPushed 5 = .ok (.getfield 343, 3) := by decide +kernel
theorem dX9_countsPushed_8 : decode cX9_countsPushed 8 = .ok (.iload_n 1, 1) := by decide +kernel
theorem dX9_countsPushed_9 : decode cX9_countsPushed 9 = .ok (.iastore, 1) := by decide +kernel
theorem dX9_countsPushed_10 : decode cX9_countsPushed 10 = .ok (.aload_n 0, 1) := by decide +kernel
theorem dX9_countsPushed_11 : decode cX9_countsPushed 11 = .ok (.dup, 1) := by decide +kernel
theorem dX9_countsPushed_12 : decode cX9_countsPushed 12 = .ok (.getfield 343, 3) := by decide +kernel
theorem dX9_countsPushed_15 : decode cX9_countsPushed 15 = .ok (.iconst 1, 1) := by decide +kernel
theorem dX9_countsPushed_16 : decode cX9_countsPushed 16 = .ok (.iadd, 1) := by decide +kernel
theorem dX9_countsPushed_17 : decode cX9_countsPushed 17 = .ok (.putfield 343, 3) := by decide +kernel
theorem dX9_countsPushed_20 : decode cX9_countsPushed 20 = .ok (.aload_n 0, 1) := by decide +kernel
theorem dX9_countsPushed_21 : decode cX9_countsPushed 21 = .ok (.getfield 35, 3) := by decide +kernel
theorem dX9_countsPushed_24 : decode cX9_countsPushed 24 = .ok (.iconst 2, 1) := by decide +kernel
theorem dX9_countsPushed_25 : decode cX9_countsPushed 25 = .ok (.dup2, 1) := by decide +kernel
theorem dX9_countsPushed_26 : decode cX9_countsPushed 26 = .ok (.iaload, 1) := by decide +kernel
theorem dX9_countsPushed_27 : decode cX9_countsPushed 27 = .ok (.iconst 1, 1) := by decide +kernel
theorem dX9_countsPushed_28 : decode cX9_countsPushed 28 = .ok (.iadd, 1) := by decide +kernel
theorem dX9_countsPushed_29 : decode cX9_countsPushed 29 = .ok (.iastore, 1) := by decide +kernel
theorem dX9_countsPushed_30 : decode cX9_countsPushed 30 = .ok (.return_, 1) := by decide +kernel
theorem dX9_freeZone_0 : decode cX9_freeZone 0 = .ok (.iconst 0, 1) := by decide +kernel
theorem dX9_freeZone_1 : decode cX9_freeZone 1 = .ok (.istore_n 1, 1) := by decide +kernel
theorem dX9_freeZone_2 : decode cX9_freeZone 2 = .ok (.aload_n 0, 1) := by decide +kernel
theorem dX9_freeZone_3 : decode cX9_freeZone 3 = .ok (.iload_n 1, 1) := by decide +kernel
theorem dX9_freeZone_4 : decode cX9_freeZone 4 = .ok (.invokevirtual 310, 3) := by decide +kernel
theorem dX9_freeZone_7 : decode cX9_freeZone 7 = .ok (.ifCond .le 9, 3) := by decide +kernel
theorem dX9_freeZone_10 : decode cX9_freeZone 10 = .ok (.iinc 1 1, 3) := by decide +kernel
theorem dX9_freeZone_13 : decode cX9_freeZone 13 = .ok (.goto (-11), 3) := by decide +kernel
theorem dX9_freeZone_16 : decode cX9_freeZone 16 = .ok (.iload_n 1, 1) := by decide +kernel
theorem dX9_freeZone_17 : decode cX9_freeZone 17 = .ok (.ireturn, 1) := by decide +kernel
theorem dX9_findsRoom_0 : decode cX9_findsRoom 0 = .ok (.aload_n 0, 1) := by decide +kernel
theorem dX9_findsRoom_1 : decode cX9_findsRoom 1 = .ok (.getfield 35, 3) := by decide +kernel
theorem dX9_findsRoom_4 : decode cX9_findsRoom 4 = .ok (.sipush 195, 3) := by decide +kernel
theorem dX9_findsRoom_7 : decode cX9_findsRoom 7 = .ok (.iload_n 1, 1) := by decide +kernel
theorem dX9_findsRoom_8 : decode cX9_findsRoom 8 = .ok (.iadd, 1) := by decide +kernel
theorem dX9_findsRoom_9 : decode cX9_findsRoom 9 = .ok (.iaload, 1) := by decide +kernel
theorem dX9_findsRoom_10 : decode cX9_findsRoom 10 = .ok (.aload_n 0, 1) := by decide +kernel
theorem dX9_findsRoom_11 : decode cX9_findsRoom 11 = .ok (.getfield 229, 3) := by decide +kernel
theorem dX9_findsRoom_14 : decode cX9_findsRoom 14 = .ok (.invokestatic 289, 3) := by decide +kernel
theorem dX9_findsRoom_17 : decode cX9_findsRoom 17 = .ok (.istore_n 2, 1) := by decide +kernel
theorem dX9_findsRoom_18 : decode cX9_findsRoom 18 = .ok (.aload_n 0, 1) := by decide +kernel
theorem dX9_findsRoom_19 : decode cX9_findsRoom 19 = .ok (.iload_n 2, 1) := by decide +kernel
theorem dX9_findsRoom_20 : decode cX9_findsRoom 20 = .ok (.iconst (-1), 1) := by decide +kernel
theorem dX9_findsRoom_21 : decode cX9_findsRoom 21 = .ok (.invokevirtual 346, 3) := by decide +kernel
theorem dX9_findsRoom_24 : decode cX9_findsRoom 24 = .ok (.istore_n 3, 1) := by decide +kernel
theorem dX9_findsRoom_25 : decode cX9_findsRoom 25 = .ok (.iload_n 3, 1) := by decide +kernel
theorem dX9_findsRoom_26 : decode cX9_findsRoom 26 = .ok (.iconst (-1), 1) := by decide +kernel
theorem dX9_findsRoom_27 : decode cX9_findsRoom 27 = .ok (.if_icmp .eq 15, 3) := by decide +kernel
theorem dX9_findsRoom_30 : decode cX9_findsRoom 30 = .ok (.aload_n 0, 1) := by decide +kernel
theorem dX9_findsRoom_31 : decode cX9_findsRoom 31 = .ok (.iload_n 1, 1) := by decide +kernel
theorem dX9_findsRoom_32 : decode cX9_findsRoom 32 = .ok (.iload_n 3, 1) := by decide +kernel
theorem dX9_findsRoom_33 : decode cX9_findsRoom 33 = .ok (.invokevirtual 349, 3) := by decide +kernel
theorem dX9_findsRoom_36 : decode cX9_findsRoom 36 = .ok (.aload_n 0, 1) := by decide +kernel
theorem dX9_findsRoom_37 : decode cX9_findsRoom 37 = .ok (.iload_n 1, 1) := by decide +kernel
theorem dX9_findsRoom_38 : decode cX9_findsRoom 38 = .ok (.invokevirtual 353, 3) := by decide +kernel
theorem dX9_findsRoom_41 : decode cX9_findsRoom 41 = .ok (.return_, 1) := by decide +kernel
theorem dX9_findsRoom_42 : decode cX9_findsRoom 42 = .ok (.aload_n 0, 1) := by decide +kernel
theorem dX9_findsRoom_43 : decode cX9_findsRoom 43 = .ok (.invokevirtual 356, 3) := by decide +kernel
theorem dX9_findsRoom_46 : decode cX9_findsRoom 46 = .ok (.iload_n 2, 1) := by decide +kernel
theorem dX9_findsRoom_47 : decode cX9_findsRoom 47 = .ok (.invokestatic 286, 3) := by decide +kernel
theorem dX9_findsRoom_50 : decode cX9_findsRoom 50 = .ok (.iadd, 1) := by decide +kernel
theorem dX9_findsRoom_51 : decode cX9_findsRoom 51 = .ok (.aload_n 0, 1) := by decide +kernel
theorem dX9_findsRoom_52 : decode cX9_findsRoom 52 = .ok (.getfield 35, 3) := by decide +kernel
theorem dX9_findsRoom_55 : decode cX9_findsRoom 55 = .ok (.iconst 0, 1) := by decide +kernel
theorem dX9_findsRoom_56 : decode cX9_findsRoom 56 = .ok (.iaload, 1) := by decide +kernel
theorem dX9_findsRoom_57 : decode cX9_findsRoom 57 = .ok (.if_icmp .gt 20, 3) := by decide +kernel
theorem dX9_findsRoom_60 : decode cX9_findsRoom 60 = .ok (.aload_n 0, 1) := by decide +kernel
theorem dX9_findsRoom_61 : decode cX9_findsRoom 61 = .ok (.getfield 35, 3) := by decide +kernel
theorem dX9_findsRoom_64 : decode cX9_findsRoom 64 = .ok (.sipush 796, 3) := by decide +kernel
theorem dX9_findsRoom_67 : decode cX9_findsRoom 67 = .ok (.aload_n 0, 1) := by decide +kernel
theorem dX9_findsRoom_68 : decode cX9_findsRoom 68 = .ok (.invokevirtual 359, 3) := by decide +kernel
theorem dX9_findsRoom_71 : decode cX9_findsRoom 71 = .ok (.iadd, 1) := by decide +kernel
theorem dX9_findsRoom_72 : decode cX9_findsRoom 72 = .ok (.iload_n 2, 1) := by decide +kernel
theorem dX9_findsRoom_73 : decode cX9_findsRoom 73 = .ok (.iastore, 1) := by decide +kernel
theorem dX9_findsRoom_74 : decode cX9_findsRoom 74 = .ok (.goto 33, 3) := by decide +kernel
theorem dX9_findsRoom_77 : decode cX9_findsRoom 77 = .ok (.aload_n 0, 1) := by decide +kernel
theorem dX9_findsRoom_78 : decode cX9_findsRoom 78 = .ok (.invokevirtual 337, 3) := by decide +kernel
theorem dX9_findsRoom_81 : decode cX9_findsRoom 81 = .ok (.iconst (-1), 1) := by decide +kernel
theorem dX9_findsRoom_82 : decode cX9_findsRoom 82 = .ok (.if_icmp .eq 14, 3) := by decide +kernel
theorem dX9_findsRoom_85 : decode cX9_findsRoom 85 = .ok (.aload_n 0, 1) := by decide +kernel
theorem dX9_findsRoom_86 : decode cX9_findsRoom 86 = .ok (.aload_n 0, 1) := by decide +kernel
theorem dX9_findsRoom_87 : decode cX9_findsRoom 87 = .ok (.invokevirtual 362, 3) := by decide +kernel
theorem dX9_findsRoom_90 : decode cX9_findsRoom 90 = .ok (.invokevirtual 365, 3) := by decide +kernel
theorem dX9_findsRoom_93 : decode cX9_findsRoom 93 = .ok (.goto 14, 3) := by decide +kernel
theorem dX9_findsRoom_96 : decode cX9_findsRoom 96 = .ok (.aload_n 0, 1) := by decide +kernel
theorem dX9_findsRoom_97 : decode cX9_findsRoom 97 = .ok (.iload_n 1, 1) := by decide +kernel
theorem dX9_findsRoom_98 : decode cX9_findsRoom 98 = .ok (.invokevirtual 340, 3) := by decide +kernel
theorem dX9_findsRoom_101 : decode cX9_findsRoom 101 = .ok (.aload_n 0, 1) := by decide +kernel
theorem dX9_findsRoom_102 : decode cX9_findsRoom 102 = .ok (.iload_n 1, 1) := by decide +kernel
theorem dX9_findsRoom_103 : decode cX9_findsRoom 103 = .ok (.invokevirtual 365, 3) := by decide +kernel
theorem dX9_findsRoom_106 : decode cX9_findsRoom 106 = .ok (.return_, 1) := by decide +kernel
theorem dX9_findsRoom_107 : decode cX9_findsRoom 107 = .ok (.goto (-89), 3) := by decide +kernel
theorem dX9_stores_0 : decode cX9_stores 0 = .ok (.aload_n 0, 1) := by decide +kernel
theorem dX9_stores_1 : decode cX9_stores 1 = .ok (.iconst 0, 1) := by decide +kernel
theorem dX9_stores_2 : decode cX9_stores 2 = .ok (.putfield 343, 3) := by decide +kernel
theorem dX9_stores_5 : decode cX9_stores 5 = .ok (.aload_n 0, 1) := by decide +kernel
theorem dX9_stores_6 : decode cX9_stores 6 = .ok (.iload_n 1, 1) := by decide +kernel
theorem dX9_stores_7 : decode cX9_stores 7 = .ok (.invokevirtual 368, 3) := by decide +kernel
theorem dX9_stores_10 : decode cX9_stores 10 = .ok (.iconst 0, 1) := by decide +kernel
theorem dX9_stores_11 : decode cX9_stores 11 = .ok (.istore_n 3, 1) := by decide +kernel
theorem dX9_stores_12 : decode cX9_stores 12 = .ok (.iload_n 3, 1) := by decide +kernel
theorem dX9_stores_13 : decode cX9_stores 13 = .ok (.bipush 16, 2) := by decide +kernel
theorem dX9_stores_15 : decode cX9_stores 15 = .ok (.if_icmp .ge 35, 3) := by decide +kernel
theorem dX9_stores_18 : decode cX9_stores 18 = .ok (.aload_n 0, 1) := by decide +kernel
theorem dX9_stores_19 : decode cX9_stores 19 = .ok (.getfield 35, 3) := by decide +kernel
theorem dX9_stores_22 : decode cX9_stores 22 = .ok (.sipush 316, 3) := by decide +kernel
theorem dX9_stores_25 : decode cX9_stores 25 = .ok (.bipush 16, 2) := by decide +kernel
theorem dX9_stores_27 : decode cX9_stores 27 = .ok (.iload_n 1, 1) := by decide +kernel
theorem dX9_stores_28 : decode cX9_stores 28 = .ok (.imul, 1) := by decide +kernel
theorem dX9_stores_29 : decode cX9_stores 29 = .ok (.iadd, 1) := by decide +kernel
theorem dX9_stores_30 : decode cX9_stores 30 = .ok (.iload_n 3, 1) := by decide +kernel
theorem dX9_stores_31 : decode cX9_stores 31 = .ok (.iadd, 1) := by decide +kernel
theorem dX9_stores_32 : decode cX9_stores 32 = .ok (.aload_n 0, 1) := by decide +kernel
theorem dX9_stores_33 : decode cX9_stores 33 = .ok (.getfield 35, 3) := by decide +kernel
theorem dX9_stores_36 : decode cX9_stores 36 = .ok (.iload_n 2, 1) := by decide +kernel
theorem dX9_stores_37 : decode cX9_stores 37 = .ok (.invokestatic 274, 3) := by decide +kernel
theorem dX9_stores_40 : decode cX9_stores 40 = .ok (.iload_n 3, 1) := by decide +kernel
theorem dX9_stores_41 : decode cX9_stores 41 = .ok (.iadd, 1) := by decide +kernel
theorem dX9_stores_42 : decode cX9_stores 42 = .ok (.iaload, 1) := by decide +kernel
theorem dX9_stores_43 : decode cX9_stores 43 = .ok (.iastore, 1) := by decide +kernel
theorem dX9_stores_44 : decode cX9_stores 44 = .ok (.iinc 3 1, 3) := by decide +kernel
theorem dX9_stores_47 : decode cX9_stores 47 = .ok (.goto (-35), 3) := by decide +kernel
theorem dX9_stores_50 : decode cX9_stores 50 = .ok (.aload_n 0, 1) := by decide +kernel
theorem dX9_stores_51 : decode cX9_stores 51 = .ok (.iload_n 2, 1) := by decide +kernel
theorem dX9_stores_52 : decode cX9_stores 52 = .ok (.invokestatic 274, 3) := by decide +kernel
theorem dX9_stores_55 : decode cX9_stores 55 = .ok (.invokevirtual 283, 3) := by decide +kernel
theorem dX9_stores_58 : decode cX9_stores 58 = .ok (.ifCond .eq 16, 3) := by decide +kernel
theorem dX9_stores_61 : decode cX9_stores 61 = .ok (.aload_n 0, 1) := by decide +kernel
theorem dX9_stores_62 : decode cX9_stores 62 = .ok (.getfield 35, 3) := by decide +kernel
theorem dX9_stores_65 : decode cX9_stores 65 = .ok (.sipush 165, 3) := by decide +kernel
theorem dX9_stores_68 : decode cX9_stores 68 = .ok (.iload_n 1, 1) := by decide +kernel
theorem dX9_stores_69 : decode cX9_stores 69 = .ok (.iadd, 1) := by decide +kernel
theorem dX9_stores_70 : decode cX9_stores 70 = .ok (.iconst 1, 1) := by decide +kernel
theorem dX9_stores_71 : decode cX9_stores 71 = .ok (.iastore, 1) := by decide +kernel
theorem dX9_stores_72 : decode cX9_stores 72 = .ok (.iconst 1, 1) := by decide +kernel
theorem dX9_stores_73 : decode cX9_stores 73 = .ok (.ireturn, 1) := by decide +kernel
theorem dX9_stores_74 : decode cX9_stores 74 = .ok (.aload_n 0, 1) := by decide +kernel
theorem dX9_stores_75 : decode cX9_stores 75 = .ok (.getfield 35, 3) := by decide +kernel
theorem dX9_stores_78 : decode cX9_stores 78 = .ok (.sipush 195, 3) := by decide +kernel
theorem dX9_stores_81 : decode cX9_stores 81 = .ok (.iload_n 1, 1) := by decide +kernel
theorem dX9_stores_82 : decode cX9_stores 82 = .ok (.iadd, 1) := by decide +kernel
theorem dX9_stores_83 : decode cX9_stores 83 = .ok (.aload_n 0, 1) := by decide +kernel
theorem dX9_stores_84 : decode cX9_stores 84 = .ok (.iload_n 2, 1) := by decide +kernel
theorem dX9_stores_85 : decode cX9_stores 85 = .ok (.invokestatic 274, 3) := by decide +kernel
theorem dX9_stores_88 : decode cX9_stores 88 = .ok (.invokevirtual 277, 3) := by decide +kernel
theorem dX9_stores_91 : decode cX9_stores 91 = .ok (.iastore, 1) := by decide +kernel
theorem dX9_stores_92 : decode cX9_stores 92 = .ok (.aload_n 0, 1) := by decide +kernel
theorem dX9_stores_93 : decode cX9_stores 93 = .ok (.getfield 35, 3) := by decide +kernel
theorem dX9_stores_96 : decode cX9_stores 96 = .ok (.sipush 195, 3) := by decide +kernel
theorem dX9_stores_99 : decode cX9_stores 99 = .ok (.iload_n 1, 1) := by decide +kernel
theorem dX9_stores_100 : decode cX9_stores 100 = .ok (.iadd, 1) := by decide +kernel
theorem dX9_stores_101 : decode cX9_stores 101 = .ok (.iaload, 1) := by decide +kernel
theorem dX9_stores_102 : decode cX9_stores 102 = .ok (.aload_n 0, 1) := by decide +kernel
theorem dX9_stores_103 : decode cX9_stores 103 = .ok (.getfield 231, 3) := by decide +kernel
theorem dX9_stores_106 : decode cX9_stores 106 = .ok (.if_icmp .le 11, 3) := by decide +kernel
theorem dX9_stores_109 : decode cX9_stores 109 = .ok (.aload_n 0, 1) := by decide +kernel
theorem dX9_stores_110 : decode cX9_stores 110 = .ok (.iload_n 1, 1) := by decide +kernel
theorem dX9_stores_111 : decode cX9_stores 111 = .ok (.invokevirtual 340, 3) := by decide +kernel
theorem dX9_stores_114 : decode cX9_stores 114 = .ok (.goto 8, 3) := by decide +kernel
theorem dX9_stores_117 : decode cX9_stores 117 = .ok (.aload_n 0, 1) := by decide +kernel
theorem dX9_stores_118 : decode cX9_stores 118 = .ok (.iload_n 1, 1) := by decide +kernel
theorem dX9_stores_119 : decode cX9_stores 119 = .ok (.invokevirtual 371, 3) := by decide +kernel
theorem dX9_stores_122 : decode cX9_stores 122 = .ok (.aload_n 0, 1) := by decide +kernel
theorem dX9_stores_123 : decode cX9_stores 123 = .ok (.iload_n 1, 1) := by decide +kernel
theorem dX9_stores_124 : decode cX9_stores 124 = .ok (.invokevirtual 325, 3) := by decide +kernel
theorem dX9_stores_127 : decode cX9_stores 127 = .ok (.ireturn, 1) := by decide +kernel
theorem dX9_loads_0 : decode cX9_loads 0 = .ok (.aload_n 0, 1) := by decide +kernel
theorem dX9_loads_1 : decode cX9_loads 1 = .ok (.iload_n 1, 1) := by decide +kernel
theorem dX9_loads_2 : decode cX9_loads 2 = .ok (.invokevirtual 325, 3) := by decide +kernel
theorem dX9_loads_5 : decode cX9_loads 5 = .ok (.iconst 3, 1) := by decide +kernel
theorem dX9_loads_6 : decode cX9_loads 6 = .ok (.if_icmp .ne 13, 3) := by decide +kernel
theorem dX9_loads_9 : decode cX9_loads 9 = .ok (.aload_n 0, 1) := by decide +kernel
theorem dX9_loads_10 : decode cX9_loads 10 = .ok (.getfield 35, 3) := by decide +kernel
theorem dX9_loads_13 : decode cX9_loads 13 = .ok (.iconst 3, 1) := by decide +kernel
theorem dX9_loads_14 : decode cX9_loads 14 = .ok (.dup2, 1) := by decide +kernel
theorem dX9_loads_15 : decode cX9_loads 15 = .ok (.iaload, 1) := by decide +kernel
theorem dX9_loads_16 : decode cX9_loads 16 = .ok (.iconst 1, 1) := by decide +kernel
theorem dX9_loads_17 : decode cX9_loads 17 = .ok (.iadd, 1) := by decide +kernel
theorem dX9_loads_18 : decode cX9_loads 18 = .ok (.iastore, 1) := by decide +kernel
theorem dX9_loads_19 : decode cX9_loads 19 = .ok (.aload_n 0, 1) := by decide +kernel
theorem dX9_loads_20 : decode cX9_loads 20 = .ok (.iload_n 1, 1) := by decide +kernel
theorem dX9_loads_21 : decode cX9_loads 21 = .ok (.invokevirtual 325, 3) := by decide +kernel
theorem dX9_loads_24 : decode cX9_loads 24 = .ok (.iconst 2, 1) := by decide +kernel
theorem dX9_loads_25 : decode cX9_loads 25 = .ok (.if_icmp .eq 4, 3) := by decide +kernel
theorem dX9_loads_28 : decode cX9_loads 28 = .ok (.return_, 1) := by decide +kernel
theorem dX9_loads_29 : decode cX9_loads 29 = .ok (.aload_n 0, 1) := by decide +kernel
theorem dX9_loads_30 : decode cX9_loads 30 = .ok (.iload_n 1, 1) := by decide +kernel
theorem dX9_loads_31 : decode cX9_loads 31 = .ok (.invokevirtual 331, 3) := by decide +kernel
theorem dX9_loads_34 : decode cX9_loads 34 = .ok (.aload_n 0, 1) := by decide +kernel
theorem dX9_loads_35 : decode cX9_loads 35 = .ok (.iload_n 1, 1) := by decide +kernel
theorem dX9_loads_36 : decode cX9_loads 36 = .ok (.invokevirtual 353, 3) := by decide +kernel
theorem dX9_loads_39 : decode cX9_loads 39 = .ok (.return_, 1) := by decide +kernel
theorem dX9_page_0 : decode cX9_page 0 = .ok (.aload_n 0, 1) := by decide +kernel
theorem dX9_page_1 : decode cX9_page 1 = .ok (.iconst 0, 1) := by decide +kernel
theorem dX9_page_2 : decode cX9_page 2 = .ok (.putfield 75, 3) := by decide +kernel
theorem dX9_page_5 : decode cX9_page 5 = .ok (.aload_n 0, 1) := by decide +kernel
theorem dX9_page_6 : decode cX9_page 6 = .ok (.iload_n 1, 1) := by decide +kernel
theorem dX9_page_7 : decode cX9_page 7 = .ok (.invokevirtual 374, 3) := by decide +kernel
theorem dX9_page_10 : decode cX9_page 10 = .ok (.ifCond .eq 15, 3) := by decide +kernel
theorem dX9_page_13 : decode cX9_page 13 = .ok (.aload_n 0, 1) := by decide +kernel
theorem dX9_page_14 : decode cX9_page 14 = .ok (.aload_n 0, 1) := by decide +kernel
theorem dX9_page_15 : decode cX9_page 15 = .ok (.iload_n 1, 1) := by decide +kernel
theorem dX9_page_16 : decode cX9_page 16 = .ok (.invokevirtual 325, 3) := by decide +kernel
theorem dX9_page_19 : decode cX9_page 19 = .ok (.invokevirtual 222, 3) := by decide +kernel
theorem dX9_page_22 : decode cX9_page 22 = .ok (.goto 8, 3) := by decide +kernel
theorem dX9_page_25 : decode cX9_page 25 = .ok (.aload_n 0, 1) := by decide +kernel
theorem dX9_page_26 : decode cX9_page 26 = .ok (.iconst 1, 1) := by decide +kernel
theorem dX9_page_27 : decode cX9_page 27 = .ok (.invokevirtual 210, 3) := by decide +kernel
theorem dX9_page_30 : decode cX9_page 30 = .ok (.ireturn, 1) := by decide +kernel
theorem dX9_pooled_0 : decode cX9_pooled 0 = .ok (.aload_n 0, 1) := by decide +kernel
theorem dX9_pooled_1 : decode cX9_pooled 1 = .ok (.iconst 0, 1) := by decide +kernel
theorem dX9_pooled_2 : decode cX9_pooled 2 = .ok (.putfield 75, 3) := by decide +kernel
theorem dX9_pooled_5 : decode cX9_pooled 5 = .ok (.aload_n 0, 1) := by decide +kernel
theorem dX9_pooled_6 : decode cX9_pooled 6 = .ok (.iload_n 1, 1) := by decide +kernel
theorem dX9_pooled_7 : decode cX9_pooled 7 = .ok (.invokevirtual 374, 3) := by decide +kernel
theorem dX9_pooled_10 : decode cX9_pooled 10 = .ok (.ifCond .eq 12, 3) := by decide +kernel
theorem dX9_pooled_13 : decode cX9_pooled 13 = .ok (.iload_n 2, 1) := by decide +kernel
theorem dX9_pooled_14 : decode cX9_pooled 14 = .ok (.iconst 0, 1) := by decide +kernel
theorem dX9_pooled_15 : decode cX9_pooled 15 = .ok (.iconst 4, 1) := by decide +kernel
theorem dX9_pooled_16 : decode cX9_pooled 16 = .ok (.invokestatic 100, 3) := by decide +kernel
theorem dX9_pooled_19 : decode cX9_pooled 19 = .ok (.ifCond .ne 9, 3) := by decide +kernel
theorem dX9_pooled_22 : decode cX9_pooled 22 = .ok (.aload_n 0, 1) := by decide +kernel
theorem dX9_pooled_23 : decode cX9_pooled 23 = .ok (.iconst 1, 1) := by decide +kernel
theorem dX9_pooled_24 : decode cX9_pooled 24 = .ok (.invokevirtual 210, 3) := by decide +kernel
theorem dX9_pooled_27 : decode cX9_pooled 27 = .ok (.ireturn, 1) := by decide +kernel
theorem dX9_pooled_28 : decode cX9_pooled 28 = .ok (.aload_n 0, 1) := by decide +kernel
theorem dX9_pooled_29 : decode cX9_pooled 29 = .ok (.iload_n 1, 1) := by decide +kernel
theorem dX9_pooled_30 : decode cX9_pooled 30 = .ok (.invokevirtual 325, 3) := by decide +kernel
theorem dX9_pooled_33 : decode cX9_pooled 33 = .ok (.iconst 2, 1) := by decide +kernel
theorem dX9_pooled_34 : decode cX9_pooled 34 = .ok (.if_icmp .eq 9, 3) := by decide +kernel
theorem dX9_pooled_37 : decode cX9_pooled 37 = .ok (.aload_n 0, 1) := by decide +kernel
theorem dX9_pooled_38 : decode cX9_pooled 38 = .ok (.iconst 5, 1) := by decide +kernel
theorem dX9_pooled_39 : decode cX9_pooled 39 = .ok (.invokevirtual 210, 3) := by decide +kernel
theorem dX9_pooled_42 : decode cX9_pooled 42 = .ok (.ireturn, 1) := by decide +kernel
theorem dX9_pooled_43 : decode cX9_pooled 43 = .ok (.iload_n 2, 1) := by decide +kernel
theorem dX9_pooled_44 : decode cX9_pooled 44 = .ok (.tableswitch 87 0 3 #[32, 47, 62, 77], 32) := by decide +kernel
theorem dX9_pooled_76 : decode cX9_pooled 76 = .ok (.aload_n 0, 1) := by decide +kernel
theorem dX9_pooled_77 : decode cX9_pooled 77 = .ok (.aload_n 0, 1) := by decide +kernel
theorem dX9_pooled_78 : decode cX9_pooled 78 = .ok (.getfield 35, 3) := by decide +kernel
theorem dX9_pooled_81 : decode cX9_pooled 81 = .ok (.sipush 195, 3) := by decide +kernel
theorem dX9_pooled_84 : decode cX9_pooled 84 = .ok (.iload_n 1, 1) := by decide +kernel
theorem dX9_pooled_85 : decode cX9_pooled 85 = .ok (.iadd, 1) := by decide +kernel
theorem dX9_pooled_86 : decode cX9_pooled 86 = .ok (.iaload, 1) := by decide +kernel
theorem dX9_pooled_87 : decode cX9_pooled 87 = .ok (.invokevirtual 222, 3) := by decide +kernel
theorem dX9_pooled_90 : decode cX9_pooled 90 = .ok (.ireturn, 1) := by decide +kernel
theorem dX9_pooled_91 : decode cX9_pooled 91 = .ok (.aload_n 0, 1) := by decide +kernel
theorem dX9_pooled_92 : decode cX9_pooled 92 = .ok (.aload_n 0, 1) := by decide +kernel
theorem dX9_pooled_93 : decode cX9_pooled 93 = .ok (.getfield 35, 3) := by decide +kernel
theorem dX9_pooled_96 : decode cX9_pooled 96 = .ok (.sipush 225, 3) := by decide +kernel
theorem dX9_pooled_99 : decode cX9_pooled 99 = .ok (.iload_n 1, 1) := by decide +kernel
theorem dX9_pooled_100 : decode cX9_pooled 100 = .ok (.iadd, 1) := by decide +kernel
theorem dX9_pooled_101 : decode cX9_pooled 101 = .ok (.iaload, 1) := by decide +kernel
theorem dX9_pooled_102 : decode cX9_pooled 102 = .ok (.invokevirtual 222, 3) := by decide +kernel
theorem dX9_pooled_105 : decode cX9_pooled 105 = .ok (.ireturn, 1) := by decide +kernel
theorem dX9_pooled_106 : decode cX9_pooled 106 = .ok (.aload_n 0, 1) := by decide +kernel
theorem dX9_pooled_107 : decode cX9_pooled 107 = .ok (.aload_n 0, 1) := by decide +kernel
theorem dX9_pooled_108 : decode cX9_pooled 108 = .ok (.getfield 35, 3) := by decide +kernel
theorem dX9_pooled_111 : decode cX9_pooled 111 = .ok (.sipush 255, 3) := by decide +kernel
theorem dX9_pooled_114 : decode cX9_pooled 114 = .ok (.iload_n 1, 1) := by decide +kernel
theorem dX9_pooled_115 : decode cX9_pooled 115 = .ok (.iadd, 1) := by decide +kernel
theorem dX9_pooled_116 : decode cX9_pooled 116 = .ok (.iaload, 1) := by decide +kernel
theorem dX9_pooled_117 : decode cX9_pooled 117 = .ok (.invokevirtual 222, 3) := by decide +kernel
theorem dX9_pooled_120 : decode cX9_pooled 120 = .ok (.ireturn, 1) := by decide +kernel
theorem dX9_pooled_121 : decode cX9_pooled 121 = .ok (.aload_n 0, 1) := by decide +kernel
theorem dX9_pooled_122 : decode cX9_pooled 122 = .ok (.aload_n 0, 1) := by decide +kernel
theorem dX9_pooled_123 : decode cX9_pooled 123 = .ok (.iload_n 1, 1) := by decide +kernel
theorem dX9_pooled_124 : decode cX9_pooled 124 = .ok (.invokevirtual 319, 3) := by decide +kernel
theorem dX9_pooled_127 : decode cX9_pooled 127 = .ok (.invokevirtual 222, 3) := by decide +kernel
theorem dX9_pooled_130 : decode cX9_pooled 130 = .ok (.ireturn, 1) := by decide +kernel
theorem dX9_pooled_131 : decode cX9_pooled 131 = .ok (.aload_n 0, 1) := by decide +kernel
theorem dX9_pooled_132 : decode cX9_pooled 132 = .ok (.aload_n 0, 1) := by decide +kernel
theorem dX9_pooled_133 : decode cX9_pooled 133 = .ok (.getfield 35, 3) := by decide +kernel
theorem dX9_pooled_136 : decode cX9_pooled 136 = .ok (.sipush 1204, 3) := by decide +kernel
theorem dX9_pooled_139 : decode cX9_pooled 139 = .ok (.iload_n 1, 1) := by decide +kernel
theorem dX9_pooled_140 : decode cX9_pooled 140 = .ok (.iadd, 1) := by decide +kernel
theorem dX9_pooled_141 : decode cX9_pooled 141 = .ok (.iaload, 1) := by decide +kernel
theorem dX9_pooled_142 : decode cX9_pooled 142 = .ok (.invokevirtual 222, 3) := by decide +kernel
theorem dX9_pooled_145 : decode cX9_pooled 145 = .ok (.ireturn, 1) := by decide +kernel
theorem dX9_read_0 : decode cX9_read 0 = .ok (.aload_n 0, 1) := by decide +kernel
theorem dX9_read_1 : decode cX9_read 1 = .ok (.iconst 0, 1) := by decide +kernel
theorem dX9_read_2 : decode cX9_read 2 = .ok (.putfield 75, 3) := by decide +kernel
theorem dX9_read_5 : decode cX9_read 5 = .ok (.aload_n 0, 1) := by decide +kernel
theorem dX9_read_6 : decode cX9_read 6 = .ok (.iload_n 1, 1) := by decide +kernel
theorem dX9_read_7 : decode cX9_read 7 = .ok (.invokevirtual 374, 3) := by decide +kernel
theorem dX9_read_10 : decode cX9_read 10 = .ok (.ifCond .eq 13, 3) := by decide +kernel
theorem dX9_read_13 : decode cX9_read 13 = .ok (.iload_n 2, 1) := by decide +kernel
theorem dX9_read_14 : decode cX9_read 14 = .ok (.iconst 0, 1) := by decide +kernel
theorem dX9_read_15 : decode cX9_read 15 = .ok (.bipush 15, 2) := by decide +kernel
theorem dX9_read_17 : decode cX9_read 17 = .ok (.invokestatic 100, 3) := by decide +kernel
theorem dX9_read_20 : decode cX9_read 20 = .ok (.ifCond .ne 9, 3) := by decide +kernel
theorem dX9_read_23 : decode cX9_read 23 = .ok (.aload_n 0, 1) := by decide +kernel
theorem dX9_read_24 : decode cX9_read 24 = .ok (.iconst 1, 1) := by decide +kernel
theorem dX9_read_25 : decode cX9_read 25 = .ok (.invokevirtual 210, 3) := by decide +kernel
theorem dX9_read_28 : decode cX9_read 28 = .ok (.ireturn, 1) := by decide +kernel
theorem dX9_read_29 : decode cX9_read 29 = .ok (.aload_n 0, 1) := by decide +kernel
theorem dX9_read_30 : decode cX9_read 30 = .ok (.iload_n 1, 1) := by decide +kernel
theorem dX9_read_31 : decode cX9_read 31 = .ok (.invokevirtual 325, 3) := by decide +kernel
theorem dX9_read_34 : decode cX9_read 34 = .ok (.ifCond .ne 11, 3) := by decide +kernel
theorem dX9_read_37 : decode cX9_read 37 = .ok (.aload_n 0, 1) := by decide +kernel
theorem dX9_read_38 : decode cX9_read 38 = .ok (.iconst 5, 1) := by decide +kernel
theorem dX9_read_39 : decode cX9_read 39 = .ok (.invokevirtual 210, 3) := by decide +kernel
theorem dX9_read_42 : decode cX9_read 42 = .ok (.goto 22, 3) := by decide +kernel
theorem dX9_read_45 : decode cX9_read 45 = .ok (.aload_n 0, 1) := by decide +kernel
theorem dX9_read_46 : decode cX9_read 46 = .ok (.aload_n 0, 1) := by decide +kernel
theorem dX9_read_47 : decode cX9_read 47 = .ok (.getfield 35, 3) := by decide +kernel
theorem dX9_read_50 : decode cX9_read 50 = .ok (.sipush 316, 3) := by decide +kernel
theorem dX9_read_53 : decode cX9_read 53 = .ok (.bipush 16, 2) := by decide +kernel
theorem dX9_read_55 : decode cX9_read 55 = .ok (.iload_n 1, 1) := by decide +kernel
theorem dX9_read_56 : decode cX9_read 56 = .ok (.imul, 1) := by decide +kernel
theorem dX9_read_57 : decode cX9_read 57 = .ok (.iadd, 1) := by decide +kernel
theorem dX9_read_58 : decode cX9_read 58 = .ok (.iload_n 2, 1) := by decide +kernel
theorem dX9_read_59 : decode cX9_read 59 = .ok (.iadd, 1) := by decide +kernel
theorem dX9_read_60 : decode cX9_read 60 = .ok (.iaload, 1) := by decide +kernel
theorem dX9_read_61 : decode cX9_read 61 = .ok (.invokevirtual 222, 3) := by decide +kernel
theorem dX9_read_64 : decode cX9_read 64 = .ok (.ireturn, 1) := by decide +kernel
theorem dX9_same_0 : decode cX9_same 0 = .ok (.aload_n 0, 1) := by decide +kernel
theorem dX9_same_1 : decode cX9_same 1 = .ok (.iconst 0, 1) := by decide +kernel
theorem dX9_same_2 : decode cX9_same 2 = .ok (.putfield 75, 3) := by decide +kernel
theorem dX9_same_5 : decode cX9_same 5 = .ok (.aload_n 0, 1) := by decide +kernel
theorem dX9_same_6 : decode cX9_same 6 = .ok (.iload_n 1, 1) := by decide +kernel
theorem dX9_same_7 : decode cX9_same 7 = .ok (.invokevirtual 374, 3) := by decide +kernel
theorem dX9_same_10 : decode cX9_same 10 = .ok (.ifCond .eq 11, 3) := by decide +kernel
theorem dX9_same_13 : decode cX9_same 13 = .ok (.aload_n 0, 1) := by decide +kernel
theorem dX9_same_14 : decode cX9_same 14 = .ok (.iload_n 2, 1) := by decide +kernel
theorem dX9_same_15 : decode cX9_same 15 = .ok (.invokevirtual 374, 3) := by decide +kernel
theorem dX9_same_18 : decode cX9_same 18 = .ok (.ifCond .ne 9, 3) := by decide +kernel
theorem dX9_same_21 : decode cX9_same 21 = .ok (.aload_n 0, 1) := by decide +kernel
theorem dX9_same_22 : decode cX9_same 22 = .ok (.iconst 1, 1) := by decide +kernel
theorem dX9_same_23 : decode cX9_same 23 = .ok (.invokevirtual 210, 3) := by decide +kernel
theorem dX9_same_26 : decode cX9_same 26 = .ok (.ireturn, 1) := by decide +kernel
theorem dX9_same_27 : decode cX9_same 27 = .ok (.aload_n 0, 1) := by decide +kernel
theorem dX9_same_28 : decode cX9_same 28 = .ok (.iload_n 1, 1) := by decide +kernel
theorem dX9_same_29 : decode cX9_same 29 = .ok (.invokevirtual 325, 3) := by decide +kernel
theorem dX9_same_32 : decode cX9_same 32 = .ok (.ifCond .eq 11, 3) := by decide +kernel
theorem dX9_same_35 : decode cX9_same 35 = .ok (.aload_n 0, 1) := by decide +kernel
theorem dX9_same_36 : decode cX9_same 36 = .ok (.iload_n 2, 1) := by decide +kernel
theorem dX9_same_37 : decode cX9_same 37 = .ok (.invokevirtual 325, 3) := by decide +kernel
theorem dX9_same_40 : decode cX9_same 40 = .ok (.ifCond .ne 9, 3) := by decide +kernel
theorem dX9_same_43 : decode cX9_same 43 = .ok (.aload_n 0, 1) := by decide +kernel
theorem dX9_same_44 : decode cX9_same 44 = .ok (.iconst 5, 1) := by decide +kernel
theorem dX9_same_45 : decode cX9_same 45 = .ok (.invokevirtual 210, 3) := by decide +kernel
theorem dX9_same_48 : decode cX9_same 48 = .ok (.ireturn, 1) := by decide +kernel
theorem dX9_same_49 : decode cX9_same 49 = .ok (.iconst 0, 1) := by decide +kernel
theorem dX9_same_50 : decode cX9_same 50 = .ok (.istore_n 3, 1) := by decide +kernel
theorem dX9_same_51 : decode cX9_same 51 = .ok (.iload_n 3, 1) := by decide +kernel
theorem dX9_same_52 : decode cX9_same 52 = .ok (.bipush 16, 2) := by decide +kernel
theorem dX9_same_54 : decode cX9_same 54 = .ok (.if_icmp .ge 48, 3) := by decide +kernel
theorem dX9_same_57 : decode cX9_same 57 = .ok (.aload_n 0, 1) := by decide +kernel
theorem dX9_same_58 : decode cX9_same 58 = .ok (.getfield 35, 3) := by decide +kernel
theorem dX9_same_61 : decode cX9_same 61 = .ok (.sipush 316, 3) := by decide +kernel
theorem dX9_same_64 : decode cX9_same 64 = .ok (.bipush 16, 2) := by decide +kernel
theorem dX9_same_66 : decode cX9_same 66 = .ok (.iload_n 1, 1) := by decide +kernel
theorem dX9_same_67 : decode cX9_same 67 = .ok (.imul, 1) := by decide +kernel
theorem dX9_same_68 : decode cX9_same 68 = .ok (.iadd, 1) := by decide +kernel
theorem dX9_same_69 : decode cX9_same 69 = .ok (.iload_n 3, 1) := by decide +kernel
theorem dX9_same_70 : decode cX9_same 70 = .ok (.iadd, 1) := by decide +kernel
theorem dX9_same_71 : decode cX9_same 71 = .ok (.iaload, 1) := by decide +kernel
theorem dX9_same_72 : decode cX9_same 72 = .ok (.aload_n 0, 1) := by decide +kernel
theorem dX9_same_73 : decode cX9_same 73 = .ok (.getfield 35, 3) := by decide +kernel
theorem dX9_same_76 : decode cX9_same 76 = .ok (.sipush 316, 3) := by decide +kernel
theorem dX9_same_79 : decode cX9_same 79 = .ok (.bipush 16, 2) := by decide +kernel
theorem dX9_same_81 : decode cX9_same 81 = .ok (.iload_n 2, 1) := by decide +kernel
theorem dX9_same_82 : decode cX9_same 82 = .ok (.imul, 1) := by decide +kernel
theorem dX9_same_83 : decode cX9_same 83 = .ok (.iadd, 1) := by decide +kernel
theorem dX9_same_84 : decode cX9_same 84 = .ok (.iload_n 3, 1) := by decide +kernel
theorem dX9_same_85 : decode cX9_same 85 = .ok (.iadd, 1) := by decide +kernel
theorem dX9_same_86 : decode cX9_same 86 = .ok (.iaload, 1) := by decide +kernel
theorem dX9_same_87 : decode cX9_same 87 = .ok (.if_icmp .eq 9, 3) := by decide +kernel
theorem dX9_same_90 : decode cX9_same 90 = .ok (.aload_n 0, 1) := by decide +kernel
theorem dX9_same_91 : decode cX9_same 91 = .ok (.iconst 0, 1) := by decide +kernel
theorem dX9_same_92 : decode cX9_same 92 = .ok (.invokevirtual 222, 3) := by decide +kernel
theorem dX9_same_95 : decode cX9_same 95 = .ok (.ireturn, 1) := by decide +kernel
theorem dX9_same_96 : decode cX9_same 96 = .ok (.iinc 3 1, 3) := by decide +kernel
theorem dX9_same_99 : decode cX9_same 99 = .ok (.goto (-48), 3) := by decide +kernel
theorem dX9_same_102 : decode cX9_same 102 = .ok (.aload_n 0, 1) := by decide +kernel
theorem dX9_same_103 : decode cX9_same 103 = .ok (.iconst 1, 1) := by decide +kernel
theorem dX9_same_104 : decode cX9_same 104 = .ok (.invokevirtual 222, 3) := by decide +kernel
theorem dX9_same_107 : decode cX9_same 107 = .ok (.ireturn, 1) := by decide +kernel
theorem dX9_coldest_0 : decode cX9_coldest 0 = .ok (.aload_n 0, 1) := by decide +kernel
theorem dX9_coldest_1 : decode cX9_coldest 1 = .ok (.iconst 0, 1) := by decide +kernel
theorem dX9_coldest_2 : decode cX9_coldest 2 = .ok (.putfield 75, 3) := by decide +kernel
theorem dX9_coldest_5 : decode cX9_coldest 5 = .ok (.aload_n 0, 1) := by decide +kernel
theorem dX9_coldest_6 : decode cX9_coldest 6 = .ok (.iload_n 1, 1) := by decide +kernel
theorem dX9_coldest_7 : decode cX9_coldest 7 = .ok (.invokevirtual 292, 3) := by decide +kernel
theorem dX9_coldest_10 : decode cX9_coldest 10 = .ok (.ifCond .ne 9, 3) := by decide +kernel
theorem dX9_coldest_13 : decode cX9_coldest 13 = .ok (.aload_n 0, 1) := by decide +kernel
theorem dX9_coldest_14 : decode cX9_coldest 14 = .ok (.iconst 1, 1) := by decide +kernel
theorem dX9_coldest_15 : decode cX9_coldest 15 = .ok (.invokevirtual 210, 3) := by decide +kernel
theorem dX9_coldest_18 : decode cX9_coldest 18 = .ok (.ireturn, 1) := by decide +kernel
theorem dX9_coldest_19 : decode cX9_coldest 19 = .ok (.iconst 0, 1) := by decide +kernel
theorem dX9_coldest_20 : decode cX9_coldest 20 = .ok (.istore_n 2, 1) := by decide +kernel
theorem dX9_coldest_21 : decode cX9_coldest 21 = .ok (.iload_n 2, 1) := by decide +kernel
theorem dX9_coldest_22 : decode cX9_coldest 22 = .ok (.aload_n 0, 1) := by decide +kernel
theorem dX9_coldest_23 : decode cX9_coldest 23 = .ok (.getfield 35, 3) := by decide +kernel
theorem dX9_coldest_26 : decode cX9_coldest 26 = .ok (.sipush 315, 3) := by decide +kernel
theorem dX9_coldest_29 : decode cX9_coldest 29 = .ok (.iaload, 1) := by decide +kernel
theorem dX9_coldest_30 : decode cX9_coldest 30 = .ok (.if_icmp .ge 44, 3) := by decide +kernel
theorem dX9_coldest_33 : decode cX9_coldest 33 = .ok (.aload_n 0, 1) := by decide +kernel
theorem dX9_coldest_34 : decode cX9_coldest 34 = .ok (.getfield 35, 3) := by decide +kernel
theorem dX9_coldest_37 : decode cX9_coldest 37 = .ok (.sipush 285, 3) := by decide +kernel
theorem dX9_coldest_40 : decode cX9_coldest 40 = .ok (.iload_n 2, 1) := by decide +kernel
theorem dX9_coldest_41 : decode cX9_coldest 41 = .ok (.iadd, 1) := by decide +kernel
theorem dX9_coldest_42 : decode cX9_coldest 42 = .ok (.iaload, 1) := by decide +kernel
theorem dX9_coldest_43 : decode cX9_coldest 43 = .ok (.istore_n 3, 1) := by decide +kernel
theorem dX9_coldest_44 : decode cX9_coldest 44 = .ok (.aload_n 0, 1) := by decide +kernel
theorem dX9_coldest_45 : decode cX9_coldest 45 = .ok (.aload_n 0, 1) := by decide +kernel
theorem dX9_coldest_46 : decode cX9_coldest 46 = .ok (.getfield 35, 3) := by decide +kernel
theorem dX9_coldest_49 : decode cX9_coldest 49 = .ok (.sipush 225, 3) := by decide +kernel
theorem dX9_coldest_52 : decode cX9_coldest 52 = .ok (.iload_n 3, 1) := by decide +kernel
theorem dX9_coldest_53 : decode cX9_coldest 53 = .ok (.iadd, 1) := by decide +kernel
theorem dX9_coldest_54 : decode cX9_coldest 54 = .ok (.iaload, 1) := by decide +kernel
theorem dX9_coldest_55 : decode cX9_coldest 55 = .ok (.invokevirtual 310, 3) := by decide +kernel
theorem dX9_coldest_58 : decode cX9_coldest 58 = .ok (.iload_n 1, 1) := by decide +kernel
theorem dX9_coldest_59 : decode cX9_coldest 59 = .ok (.if_icmp .ne 9, 3) := by decide +kernel
theorem dX9_coldest_62 : decode cX9_coldest 62 = .ok (.aload_n 0, 1) := by decide +kernel
theorem dX9_coldest_63 : decode cX9_coldest 63 = .ok (.iload_n 3, 1) := by decide +kernel
theorem dX9_coldest_64 : decode cX9_coldest 64 = .ok (.invokevirtual 222, 3) := by decide +kernel
theorem dX9_coldest_67 : decode cX9_coldest 67 = .ok (.ireturn, 1) := by decide +kernel
theorem dX9_coldest_68 : decode cX9_coldest 68 = .ok (.iinc 2 1, 3) := by decide +kernel
theorem dX9_coldest_71 : decode cX9_coldest 71 = .ok (.goto (-50), 3) := by decide +kernel
theorem dX9_coldest_74 : decode cX9_coldest 74 = .ok (.aload_n 0, 1) := by decide +kernel
theorem dX9_coldest_75 : decode cX9_coldest 75 = .ok (.bipush (-2), 2) := by decide +kernel
theorem dX9_coldest_77 : decode cX9_coldest 77 = .ok (.invokevirtual 222, 3) := by decide +kernel
theorem dX9_coldest_80 : decode cX9_coldest 80 = .ok (.ireturn, 1) := by decide +kernel
theorem dX9_next_0 : decode cX9_next 0 = .ok (.aload_n 0, 1) := by decide +kernel
theorem dX9_next_1 : decode cX9_next 1 = .ok (.iconst 0, 1) := by decide +kernel
theorem dX9_next_2 : decode cX9_next 2 = .ok (.putfield 75, 3) := by decide +kernel
theorem dX9_next_5 : decode cX9_next 5 = .ok (.aload_n 0, 1) := by decide +kernel
theorem dX9_next_6 : decode cX9_next 6 = .ok (.getfield 225, 3) := by decide +kernel
theorem dX9_next_9 : decode cX9_next 9 = .ok (.ifCond .ne 9, 3) := by decide +kernel
theorem dX9_next_12 : decode cX9_next 12 = .ok (.aload_n 0, 1) := by decide +kernel
theorem dX9_next_13 : decode cX9_next 13 = .ok (.iconst 1, 1) := by decide +kernel
theorem dX9_next_14 : decode cX9_next 14 = .ok (.invokevirtual 210, 3) := by decide +kernel
theorem dX9_next_17 : decode cX9_next 17 = .ok (.ireturn, 1) := by decide +kernel
theorem dX9_next_18 : decode cX9_next 18 = .ok (.iload_n 1, 1) := by decide +kernel
theorem dX9_next_19 : decode cX9_next 19 = .ok (.iconst 2, 1) := by decide +kernel
theorem dX9_next_20 : decode cX9_next 20 = .ok (.bipush 15, 2) := by decide +kernel
theorem dX9_next_22 : decode cX9_next 22 = .ok (.invokestatic 100, 3) := by decide +kernel
theorem dX9_next_25 : decode cX9_next 25 = .ok (.ifCond .ne 9, 3) := by decide +kernel
theorem dX9_next_28 : decode cX9_next 28 = .ok (.aload_n 0, 1) := by decide +kernel
theorem dX9_next_29 : decode cX9_next 29 = .ok (.iconst 2, 1) := by decide +kernel
theorem dX9_next_30 : decode cX9_next 30 = .ok (.invokevirtual 210, 3) := by decide +kernel
theorem dX9_next_33 : decode cX9_next 33 = .ok (.ireturn, 1) := by decide +kernel
theorem dX9_next_34 : decode cX9_next 34 = .ok (.iload_n 1, 1) := by decide +kernel
theorem dX9_next_35 : decode cX9_next 35 = .ok (.aload_n 0, 1) := by decide +kernel
theorem dX9_next_36 : decode cX9_next 36 = .ok (.getfield 229, 3) := by decide +kernel
theorem dX9_next_39 : decode cX9_next 39 = .ok (.invokestatic 289, 3) := by decide +kernel
theorem dX9_next_42 : decode cX9_next 42 = .ok (.istore_n 2, 1) := by decide +kernel
theorem dX9_next_43 : decode cX9_next 43 = .ok (.aload_n 0, 1) := by decide +kernel
theorem dX9_next_44 : decode cX9_next 44 = .ok (.iload_n 2, 1) := by decide +kernel
theorem dX9_next_45 : decode cX9_next 45 = .ok (.iconst (-1), 1) := by decide +kernel
theorem dX9_next_46 : decode cX9_next 46 = .ok (.invokevirtual 346, 3) := by decide +kernel
theorem dX9_next_49 : decode cX9_next 49 = .ok (.istore_n 3, 1) := by decide +kernel
theorem dX9_next_50 : decode cX9_next 50 = .ok (.iload_n 3, 1) := by decide +kernel
theorem dX9_next_51 : decode cX9_next 51 = .ok (.iconst (-1), 1) := by decide +kernel
theorem dX9_next_52 : decode cX9_next 52 = .ok (.if_icmp .eq 9, 3) := by decide +kernel
theorem dX9_next_55 : decode cX9_next 55 = .ok (.aload_n 0, 1) := by decide +kernel
theorem dX9_next_56 : decode cX9_next 56 = .ok (.iload_n 3, 1) := by decide +kernel
theorem dX9_next_57 : decode cX9_next 57 = .ok (.invokevirtual 222, 3) := by decide +kernel
theorem dX9_next_60 : decode cX9_next 60 = .ok (.ireturn, 1) := by decide +kernel
theorem dX9_next_61 : decode cX9_next 61 = .ok (.aload_n 0, 1) := by decide +kernel
theorem dX9_next_62 : decode cX9_next 62 = .ok (.aload_n 0, 1) := by decide +kernel
theorem dX9_next_63 : decode cX9_next 63 = .ok (.invokevirtual 356, 3) := by decide +kernel
theorem dX9_next_66 : decode cX9_next 66 = .ok (.iload_n 2, 1) := by decide +kernel
theorem dX9_next_67 : decode cX9_next 67 = .ok (.invokestatic 286, 3) := by decide +kernel
theorem dX9_next_70 : decode cX9_next 70 = .ok (.iadd, 1) := by decide +kernel
theorem dX9_next_71 : decode cX9_next 71 = .ok (.aload_n 0, 1) := by decide +kernel
theorem dX9_next_72 : decode cX9_next 72 = .ok (.getfield 35, 3) := by decide +kernel
theorem dX9_next_75 : decode cX9_next 75 = .ok (.iconst 0, 1) := by decide +kernel
theorem dX9_next_76 : decode cX9_next 76 = .ok (.iaload, 1) := by decide +kernel
theorem dX9_next_77 : decode cX9_next 77 = .ok (.if_icmp .gt 10, 3) := by decide +kernel
theorem dX9_next_80 : decode cX9_next 80 = .ok (.aload_n 0, 1) := by decide +kernel
theorem dX9_next_81 : decode cX9_next 81 = .ok (.invokevirtual 359, 3) := by decide +kernel
theorem dX9_next_84 : decode cX9_next 84 = .ok (.goto 5, 3) := by decide +kernel
theorem dX9_next_87 : decode cX9_next 87 = .ok (.bipush (-2), 2) := by decide +kernel
theorem dX9_next_89 : decode cX9_next 89 = .ok (.invokevirtual 222, 3) := by decide +kernel
theorem dX9_next_92 : decode cX9_next 92 = .ok (.ireturn, 1) := by decide +kernel
theorem dX9_aged_0 : decode cX9_aged 0 = .ok (.aload_n 0, 1) := by decide +kernel
theorem dX9_aged_1 : decode cX9_aged 1 = .ok (.iconst 0, 1) := by decide +kernel
theorem dX9_aged_2 : decode cX9_aged 2 = .ok (.putfield 75, 3) := by decide +kernel
theorem dX9_aged_5 : decode cX9_aged 5 = .ok (.aload_n 0, 1) := by decide +kernel
theorem dX9_aged_6 : decode cX9_aged 6 = .ok (.getfield 225, 3) := by decide +kernel
theorem dX9_aged_9 : decode cX9_aged 9 = .ok (.ifCond .eq 19, 3) := by decide +kernel
theorem dX9_aged_12 : decode cX9_aged 12 = .ok (.iload_n 1, 1) := by decide +kernel
theorem dX9_aged_13 : decode cX9_aged 13 = .ok (.ifCond .lt 15, 3) := by decide +kernel
theorem dX9_aged_16 : decode cX9_aged 16 = .ok (.iload_n 1, 1) := by decide +kernel
theorem dX9_aged_17 : decode cX9_aged 17 = .ok (.aload_n 0, 1) := by decide +kernel
theorem dX9_aged_18 : decode cX9_aged 18 = .ok (.getfield 35, 3) := by decide +kernel
theorem dX9_aged_21 : decode cX9_aged 21 = .ok (.sipush 315, 3) := by decide +kernel
theorem dX9_aged_24 : decode cX9_aged 24 = .ok (.iaload, 1) := by decide +kernel
theorem dX9_aged_25 : decode cX9_aged 25 = .ok (.if_icmp .lt 9, 3) := by decide +kernel
theorem dX9_aged_28 : decode cX9_aged 28 = .ok (.aload_n 0, 1) := by decide +kernel
theorem dX9_aged_29 : decode cX9_aged 29 = .ok (.iconst 1, 1) := by decide +kernel
theorem dX9_aged_30 : decode cX9_aged 30 = .ok (.invokevirtual 210, 3) := by decide +kernel
theorem dX9_aged_33 : decode cX9_aged 33 = .ok (.ireturn, 1) := by decide +kernel
theorem dX9_aged_34 : decode cX9_aged 34 = .ok (.aload_n 0, 1) := by decide +kernel
theorem dX9_aged_35 : decode cX9_aged 35 = .ok (.aload_n 0, 1) := by decide +kernel
theorem dX9_aged_36 : decode cX9_aged 36 = .ok (.getfield 35, 3) := by decide +kernel
theorem dX9_aged_39 : decode cX9_aged 39 = .ok (.sipush 285, 3) := by decide +kernel
theorem dX9_aged_42 : decode cX9_aged 42 = .ok (.iload_n 1, 1) := by decide +kernel
theorem dX9_aged_43 : decode cX9_aged 43 = .ok (.iadd, 1) := by decide +kernel
theorem dX9_aged_44 : decode cX9_aged 44 = .ok (.iaload, 1) := by decide +kernel
theorem dX9_aged_45 : decode cX9_aged 45 = .ok (.invokevirtual 222, 3) := by decide +kernel
theorem dX9_aged_48 : decode cX9_aged 48 = .ok (.ireturn, 1) := by decide +kernel
theorem dX9_total_0 : decode cX9_total 0 = .ok (.aload_n 0, 1) := by decide +kernel
theorem dX9_total_1 : decode cX9_total 1 = .ok (.iconst 0, 1) := by decide +kernel
theorem dX9_total_2 : decode cX9_total 2 = .ok (.putfield 75, 3) := by decide +kernel
theorem dX9_total_5 : decode cX9_total 5 = .ok (.aload_n 0, 1) := by decide +kernel
theorem dX9_total_6 : decode cX9_total 6 = .ok (.getfield 225, 3) := by decide +kernel
theorem dX9_total_9 : decode cX9_total 9 = .ok (.ifCond .eq 12, 3) := by decide +kernel
theorem dX9_total_12 : decode cX9_total 12 = .ok (.iload_n 1, 1) := by decide +kernel
theorem dX9_total_13 : decode cX9_total 13 = .ok (.iconst 0, 1) := by decide +kernel
theorem dX9_total_14 : decode cX9_total 14 = .ok (.iconst 3, 1) := by decide +kernel
theorem dX9_total_15 : decode cX9_total 15 = .ok (.invokestatic 100, 3) := by decide +kernel
theorem dX9_total_18 : decode cX9_total 18 = .ok (.ifCond .ne 9, 3) := by decide +kernel
theorem dX9_total_21 : decode cX9_total 21 = .ok (.aload_n 0, 1) := by decide +kernel
theorem dX9_total_22 : decode cX9_total 22 = .ok (.iconst 1, 1) := by decide +kernel
theorem dX9_total_23 : decode cX9_total 23 = .ok (.invokevirtual 210, 3) := by decide +kernel
theorem dX9_total_26 : decode cX9_total 26 = .ok (.ireturn, 1) := by decide +kernel
theorem dX9_total_27 : decode cX9_total 27 = .ok (.aload_n 0, 1) := by decide +kernel
theorem dX9_total_28 : decode cX9_total 28 = .ok (.aload_n 0, 1) := by decide +kernel
theorem dX9_total_29 : decode cX9_total 29 = .ok (.getfield 35, 3) := by decide +kernel
theorem dX9_total_32 : decode cX9_total 32 = .ok (.iconst 1, 1) := by decide +kernel
theorem dX9_total_33 : decode cX9_total 33 = .ok (.iload_n 1, 1) := by decide +kernel
theorem dX9_total_34 : decode cX9_total 34 = .ok (.iadd, 1) := by decide +kernel
theorem dX9_total_35 : decode cX9_total 35 = .ok (.iaload, 1) := by decide +kernel
theorem dX9_total_36 : decode cX9_total 36 = .ok (.invokevirtual 222, 3) := by decide +kernel
theorem dX9_total_39 : decode cX9_total 39 = .ok (.ireturn, 1) := by decide +kernel
theorem dX9_placed_0 : decode cX9_placed 0 = .ok (.iconst 0, 1) := by decide +kernel
theorem dX9_placed_1 : decode cX9_placed 1 = .ok (.istore_n 2, 1) := by decide +kernel
theorem dX9_placed_2 : decode cX9_placed 2 = .ok (.iconst 0, 1) := by decide +kernel
theorem dX9_placed_3 : decode cX9_placed 3 = .ok (.istore_n 3, 1) := by decide +kernel
theorem dX9_placed_4 : decode cX9_placed 4 = .ok (.iload_n 3, 1) := by decide +kernel
theorem dX9_placed_5 : decode cX9_placed 5 = .ok (.bipush 30, 2) := by decide +kernel
theorem dX9_placed_7 : decode cX9_placed 7 = .ok (.if_icmp .ge 26, 3) := by decide +kernel
theorem dX9_placed_10 : decode cX9_placed 10 = .ok (.iload_n 2, 1) := by decide +kernel
theorem dX9_placed_11 : decode cX9_placed 11 = .ok (.aload_n 0, 1) := by decide +kernel
theorem dX9_placed_12 : decode cX9_placed 12 = .ok (.iload_n 3, 1) := by decide +kernel
theorem dX9_placed_13 : decode cX9_placed 13 = .ok (.invokevirtual 325, 3) := by decide +kernel
theorem dX9_placed_16 : decode cX9_placed 16 = .ok (.iload_n 1, 1) := by decide +kernel
theorem dX9_placed_17 : decode cX9_placed 17 = .ok (.if_icmp .ne 7, 3) := by decide +kernel
theorem dX9_placed_20 : decode cX9_placed 20 = .ok (.iconst 1, 1) := by decide +kernel
theorem dX9_placed_21 : decode cX9_placed 21 = .ok (.goto 4, 3) := by decide +kernel
theorem dX9_placed_24 : decode cX9_placed 24 = .ok (.iconst 0, 1) := by decide +kernel
theorem dX9_placed_25 : decode cX9_placed 25 = .ok (.iadd, 1) := by decide +kernel
theorem dX9_placed_26 : decode cX9_placed 26 = .ok (.istore_n 2, 1) := by decide +kernel
theorem dX9_placed_27 : decode cX9_placed 27 = .ok (.iinc 3 1, 3) := by decide +kernel
theorem dX9_placed_30 : decode cX9_placed 30 = .ok (.goto (-26), 3) := by decide +kernel
theorem dX9_placed_33 : decode cX9_placed 33 = .ok (.iload_n 2, 1) := by decide +kernel
theorem dX9_placed_34 : decode cX9_placed 34 = .ok (.ireturn, 1) := by decide +kernel
theorem dX9_sizesTogether_0 : decode cX9_sizesTogether 0 = .ok (.iconst 0, 1) := by decide +kernel
theorem dX9_sizesTogether_1 : decode cX9_sizesTogether 1 = .ok (.istore_n 1, 1) := by decide +kernel
theorem dX9_sizesTogether_2 : decode cX9_sizesTogether 2 = .ok (.iconst 0, 1) := by decide +kernel
theorem dX9_sizesTogether_3 : decode cX9_sizesTogether 3 = .ok (.istore_n 2, 1) := by decide +kernel
theorem dX9_sizesTogether_4 : decode cX9_sizesTogether 4 = .ok (.iload_n 2, 1) := by decide +kernel
theorem dX9_sizesTogether_5 : decode cX9_sizesTogether 5 = .ok (.bipush 30, 2) := by decide +kernel
theorem dX9_sizesTogether_7 : decode cX9_sizesTogether 7 = .ok (.if_icmp .ge 35, 3) := by decide +kernel
theorem dX9_sizesTogether_10 : decode cX9_sizesTogether 10 = .ok (.iload_n 1, 1) := by decide +kernel
theorem dX9_sizesTogether_11 : decode cX9_sizesTogether 11 = .ok (.aload_n 0, 1) := by decide +kernel
theorem dX9_sizesTogether_12 : decode cX9_sizesTogether 12 = .ok (.iload_n 2, 1) := by decide +kernel
theorem dX9_sizesTogether_13 : decode cX9_sizesTogether 13 = .ok (.invokevirtual 325, 3) := by decide +kernel
theorem dX9_sizesTogether_16 : decode cX9_sizesTogether 16 = .ok (.iconst 2, 1) := by decide +kernel
theorem dX9_sizesTogether_17 : decode cX9_sizesTogether 17 = .ok (.if_icmp .ne 16, 3) := by decide +kernel
theorem dX9_sizesTogether_20 : decode cX9_sizesTogether 20 = .ok (.aload_n 0, 1) := by decide +kernel
theorem dX9_sizesTogether_21 : decode cX9_sizesTogether 21 = .ok (.getfield 35, 3) := by decide +kernel
theorem dX9_sizesTogether_24 : decode cX9_sizesTogether 24 = .ok (.sipush 195, 3) := by decide +kernel
theorem dX9_sizesTogether_27 : decode cX9_sizesTogether 27 = .ok (.iload_n 2, 1) := by decide +kernel
theorem dX9_sizesTogether_28 : decode cX9_sizesTogether 28 = .ok (.iadd, 1) := by decide +kernel
theorem dX9_sizesTogether_29 : decode cX9_sizesTogether 29 = .ok (.iaload, 1) := by decide +kernel
theorem dX9_sizesTogether_30 : decode cX9_sizesTogether 30 = .ok (.goto 4, 3) := by decide +kernel
theorem dX9_sizesTogether_33 : decode cX9_sizesTogether 33 = .ok (.iconst 0, 1) := by decide +kernel
theorem dX9_sizesTogether_34 : decode cX9_sizesTogether 34 = .ok (.iadd, 1) := by decide +kernel
theorem dX9_sizesTogether_35 : decode cX9_sizesTogether 35 = .ok (.istore_n 1, 1) := by decide +kernel
theorem dX9_sizesTogether_36 : decode cX9_sizesTogether 36 = .ok (.iinc 2 1, 3) := by decide +kernel
theorem dX9_sizesTogether_39 : decode cX9_sizesTogether 39 = .ok (.goto (-35), 3) := by decide +kernel
theorem dX9_sizesTogether_42 : decode cX9_sizesTogether 42 = .ok (.iload_n 1, 1) := by decide +kernel
theorem dX9_sizesTogether_43 : decode cX9_sizesTogether 43 = .ok (.ireturn, 1) := by decide +kernel
theorem dX9_waste_0 : decode cX9_waste 0 = .ok (.aload_n 0, 1) := by decide +kernel
theorem dX9_waste_1 : decode cX9_waste 1 = .ok (.iconst 0, 1) := by decide +kernel
theorem dX9_waste_2 : decode cX9_waste 2 = .ok (.putfield 75, 3) := by decide +kernel
theorem dX9_waste_5 : decode cX9_waste 5 = .ok (.aload_n 0, 1) := by decide +kernel
theorem dX9_waste_6 : decode cX9_waste 6 = .ok (.getfield 225, 3) := by decide +kernel
theorem dX9_waste_9 : decode cX9_waste 9 = .ok (.ifCond .ne 9, 3) := by decide +kernel
theorem dX9_waste_12 : decode cX9_waste 12 = .ok (.aload_n 0, 1) := by decide +kernel
theorem dX9_waste_13 : decode cX9_waste 13 = .ok (.iconst 1, 1) := by decide +kernel
theorem dX9_waste_14 : decode cX9_waste 14 = .ok (.invokevirtual 210, 3) := by decide +kernel
theorem dX9_waste_17 : decode cX9_waste 17 = .ok (.ireturn, 1) := by decide +kernel
theorem dX9_waste_18 : decode cX9_waste 18 = .ok (.aload_n 0, 1) := by decide +kernel
theorem dX9_waste_19 : decode cX9_waste 19 = .ok (.bipush 16, 2) := by decide +kernel
theorem dX9_waste_21 : decode cX9_waste 21 = .ok (.aload_n 0, 1) := by decide +kernel
theorem dX9_waste_22 : decode cX9_waste 22 = .ok (.invokevirtual 356, 3) := by decide +kernel
theorem dX9_waste_25 : decode cX9_waste 25 = .ok (.imul, 1) := by decide +kernel
theorem dX9_waste_26 : decode cX9_waste 26 = .ok (.aload_n 0, 1) := by decide +kernel
theorem dX9_waste_27 : decode cX9_waste 27 = .ok (.invokevirtual 377, 3) := by decide +kernel
theorem dX9_waste_30 : decode cX9_waste 30 = .ok (.isub, 1) := by decide +kernel
theorem dX9_waste_31 : decode cX9_waste 31 = .ok (.invokevirtual 222, 3) := by decide +kernel
theorem dX9_waste_34 : decode cX9_waste 34 = .ok (.ireturn, 1) := by decide +kernel
theorem dX9_about_0 : decode cX9_about 0 = .ok (.aload_n 0, 1) := by decide +kernel
theorem dX9_about_1 : decode cX9_about 1 = .ok (.iconst 0, 1) := by decide +kernel
theorem dX9_about_2 : decode cX9_about 2 = .ok (.putfield 75, 3) := by decide +kernel
theorem dX9_about_5 : decode cX9_about 5 = .ok (.aload_n 0, 1) := by decide +kernel
theorem dX9_about_6 : decode cX9_about 6 = .ok (.getfield 225, 3) := by decide +kernel
theorem dX9_about_9 : decode cX9_about 9 = .ok (.ifCond .ne 9, 3) := by decide +kernel
theorem dX9_about_12 : decode cX9_about 12 = .ok (.aload_n 0, 1) := by decide +kernel
theorem dX9_about_13 : decode cX9_about 13 = .ok (.iconst 1, 1) := by decide +kernel
theorem dX9_about_14 : decode cX9_about 14 = .ok (.invokevirtual 210, 3) := by decide +kernel
theorem dX9_about_17 : decode cX9_about 17 = .ok (.ireturn, 1) := by decide +kernel
theorem dX9_about_18 : decode cX9_about 18 = .ok (.iload_n 1, 1) := by decide +kernel
theorem dX9_about_19 : decode cX9_about 19 = .ok (.tableswitch 164 0 10 #[57, 68, 77, 86, 95, 104, 113, 122, 135, 145, 155], 57) := by decide +kernel
theorem dX9_about_76 : decode cX9_about 76 = .ok (.aload_n 0, 1) := by decide +kernel
theorem dX9_about_77 : decode cX9_about 77 = .ok (.aload_n 0, 1) := by decide +kernel
theorem dX9_about_78 : decode cX9_about 78 = .ok (.getfield 35, 3) := by decide +kernel
theorem dX9_about_81 : decode cX9_about 81 = .ok (.iconst 0, 1) := by decide +kernel
theorem dX9_about_82 : decode cX9_about 82 = .ok (.iaload, 1) := by decide +kernel
theorem dX9_about_83 : decode cX9_about 83 = .ok (.invokevirtual 222, 3) := by decide +kernel
theorem dX9_about_86 : decode cX9_about 86 = .ok (.ireturn, 1) := by decide +kernel
theorem dX9_about_87 : decode cX9_about 87 = .ok (.aload_n 0, 1) := by decide +kernel
theorem dX9_about_88 : decode cX9_about 88 = .ok (.aload_n 0, 1) := by decide +kernel
theorem dX9_about_89 : decode cX9_about 89 = .ok (.getfield 229, 3) := by decide +kernel
theorem dX9_about_92 : decode cX9_about 92 = .ok (.invokevirtual 222, 3) := by decide +kernel
theorem dX9_about_95 : decode cX9_about 95 = .ok (.ireturn, 1) := by decide +kernel
theorem dX9_about_96 : decode cX9_about 96 = .ok (.aload_n 0, 1) := by decide +kernel
theorem dX9_about_97 : decode cX9_about 97 = .ok (.aload_n 0, 1) := by decide +kernel
theorem dX9_about_98 : decode cX9_about 98 = .ok (.getfield 231, 3) := by decide +kernel
theorem dX9_about_101 : decode cX9_about 101 = .ok (.invokevirtual 222, 3) := by decide +kernel
theorem dX9_about_104 : decode cX9_about 104 = .ok (.ireturn, 1) := by decide +kernel
theorem dX9_about_105 : decode cX9_about 105 = .ok (.aload_n 0, 1) := by decide +kernel
theorem dX9_about_106 : decode cX9_about 106 = .ok (.aload_n 0, 1) := by decide +kernel
theorem dX9_about_107 : decode cX9_about 107 = .ok (.getfield 219, 3) := by decide +kernel
theorem dX9_about_110 : decode cX9_about 110 = .ok (.invokevirtual 222, 3) := by decide +kernel
theorem dX9_about_113 : decode cX9_about 113 = .ok (.ireturn, 1) := by decide +kernel
theorem dX9_about_114 : decode cX9_about 114 = .ok (.aload_n 0, 1) := by decide +kernel
theorem dX9_about_115 : decode cX9_about 115 = .ok (.aload_n 0, 1) := by decide +kernel
theorem dX9_about_116 : decode cX9_about 116 = .ok (.getfield 233, 3) := by decide +kernel
theorem dX9_about_119 : decode cX9_about 119 = .ok (.invokevirtual 222, 3) := by decide +kernel
theorem dX9_about_122 : decode cX9_about 122 = .ok (.ireturn, 1) := by decide +kernel
theorem dX9_about_123 : decode cX9_about 123 = .ok (.aload_n 0, 1) := by decide +kernel
theorem dX9_about_124 : decode cX9_about 124 = .ok (.aload_n 0, 1) := by decide +kernel
theorem dX9_about_125 : decode cX9_about 125 = .ok (.invokevirtual 356, 3) := by decide +kernel
theorem dX9_about_128 : decode cX9_about 128 = .ok (.invokevirtual 222, 3) := by decide +kernel
theorem dX9_about_131 : decode cX9_about 131 = .ok (.ireturn, 1) := by decide +kernel
theorem dX9_about_132 : decode cX9_about 132 = .ok (.aload_n 0, 1) := by decide +kernel
theorem dX9_about_133 : decode cX9_about 133 = .ok (.aload_n 0, 1) := by decide +kernel
theorem dX9_about_134 : decode cX9_about 134 = .ok (.invokevirtual 380, 3) := by decide +kernel
theorem dX9_about_137 : decode cX9_about 137 = .ok (.invokevirtual 222, 3) := by decide +kernel
theorem dX9_about_140 : decode cX9_about 140 = .ok (.ireturn, 1) := by decide +kernel
theorem dX9_about_141 : decode cX9_about 141 = .ok (.aload_n 0, 1) := by decide +kernel
theorem dX9_about_142 : decode cX9_about 142 = .ok (.aload_n 0, 1) := by decide +kernel
theorem dX9_about_143 : decode cX9_about 143 = .ok (.getfield 35, 3) := by decide +kernel
theorem dX9_about_146 : decode cX9_about 146 = .ok (.sipush 315, 3) := by decide +kernel
theorem dX9_about_149 : decode cX9_about 149 = .ok (.iaload, 1) := by decide +kernel
theorem dX9_about_150 : decode cX9_about 150 = .ok (.invokevirtual 222, 3) := by decide +kernel
theorem dX9_about_153 : decode cX9_about 153 = .ok (.ireturn, 1) := by decide +kernel
theorem dX9_about_154 : decode cX9_about 154 = .ok (.aload_n 0, 1) := by decide +kernel
theorem dX9_about_155 : decode cX9_about 155 = .ok (.aload_n 0, 1) := by decide +kernel
theorem dX9_about_156 : decode cX9_about 156 = .ok (.iconst 1, 1) := by decide +kernel
theorem dX9_about_157 : decode cX9_about 157 = .ok (.invokevirtual 383, 3) := by decide +kernel
theorem dX9_about_160 : decode cX9_about 160 = .ok (.invokevirtual 222, 3) := by decide +kernel
theorem dX9_about_163 : decode cX9_about 163 = .ok (.ireturn, 1) := by decide +kernel
theorem dX9_about_164 : decode cX9_about 164 = .ok (.aload_n 0, 1) := by decide +kernel
theorem dX9_about_165 : decode cX9_about 165 = .ok (.aload_n 0, 1) := by decide +kernel
theorem dX9_about_166 : decode cX9_about 166 = .ok (.iconst 3, 1) := by decide +kernel
theorem dX9_about_167 : decode cX9_about 167 = .ok (.invokevirtual 383, 3) := by decide +kernel
theorem dX9_about_170 : decode cX9_about 170 = .ok (.invokevirtual 222, 3) := by decide +kernel
theorem dX9_about_173 : decode cX9_about 173 = .ok (.ireturn, 1) := by decide +kernel
theorem dX9_about_174 : decode cX9_about 174 = .ok (.aload_n 0, 1) := by decide +kernel
theorem dX9_about_175 : decode cX9_about 175 = .ok (.aload_n 0, 1) := by decide +kernel
theorem dX9_about_176 : decode cX9_about 176 = .ok (.invokevirtual 377, 3) := by decide +kernel
theorem dX9_about_179 : decode cX9_about 179 = .ok (.invokevirtual 222, 3) := by decide +kernel
theorem dX9_about_182 : decode cX9_about 182 = .ok (.ireturn, 1) := by decide +kernel
theorem dX9_about_183 : decode cX9_about 183 = .ok (.aload_n 0, 1) := by decide +kernel
theorem dX9_about_184 : decode cX9_about 184 = .ok (.iconst 1, 1) := by decide +kernel
theorem dX9_about_185 : decode cX9_about 185 = .ok (.invokevirtual 210, 3) := by decide +kernel
theorem dX9_about_188 : decode cX9_about 188 = .ok (.ireturn, 1) := by decide +kernel
theorem dX9_moves_0 : decode cX9_moves 0 = .ok (.aload_n 0, 1) := by decide +kernel
theorem dX9_moves_1 : decode cX9_moves 1 = .ok (.iload_n 1, 1) := by decide +kernel
theorem dX9_moves_2 : decode cX9_moves 2 = .ok (.invokevirtual 386, 3) := by decide +kernel
theorem dX9_moves_5 : decode cX9_moves 5 = .ok (.istore_n 2, 1) := by decide +kernel
theorem dX9_moves_6 : decode cX9_moves 6 = .ok (.aload_n 0, 1) := by decide +kernel
theorem dX9_moves_7 : decode cX9_moves 7 = .ok (.iload_n 1, 1) := by decide +kernel
theorem dX9_moves_8 : decode cX9_moves 8 = .ok (.iload_n 2, 1) := by decide +kernel
theorem dX9_moves_9 : decode cX9_moves 9 = .ok (.invokevirtual 346, 3) := by decide +kernel
theorem dX9_moves_12 : decode cX9_moves 12 = .ok (.istore_n 3, 1) := by decide +kernel
theorem dX9_moves_13 : decode cX9_moves 13 = .ok (.bipush 15, 2) := by decide +kernel
theorem dX9_moves_15 : decode cX9_moves 15 = .ok (.istore 4, 2) := by decide +kernel
theorem dX9_moves_17 : decode cX9_moves 17 = .ok (.aload_n 0, 1) := by decide +kernel
theorem dX9_moves_18 : decode cX9_moves 18 = .ok (.getfield 35, 3) := by decide +kernel
theorem dX9_moves_21 : decode cX9_moves 21 = .ok (.iload_n 2, 1) := by decide +kernel
theorem dX9_moves_22 : decode cX9_moves 22 = .ok (.iload 4, 2) := by decide +kernel
theorem dX9_moves_24 : decode cX9_moves 24 = .ok (.invokestatic 304, 3) := by decide +kernel
theorem dX9_moves_27 : decode cX9_moves 27 = .ok (.iaload, 1) := by decide +kernel
theorem dX9_moves_28 : decode cX9_moves 28 = .ok (.ifCond .ne 9, 3) := by decide +kernel
theorem dX9_moves_31 : decode cX9_moves 31 = .ok (.iinc 4 (-1), 3) := by decide +kernel
theorem dX9_moves_34 : decode cX9_moves 34 = .ok (.goto (-17), 3) := by decide +kernel
theorem dX9_moves_37 : decode cX9_moves 37 = .ok (.aload_n 0, 1) := by decide +kernel
theorem dX9_moves_38 : decode cX9_moves 38 = .ok (.getfield 35, 3) := by decide +kernel
theorem dX9_moves_41 : decode cX9_moves 41 = .ok (.iload_n 2, 1) := by decide +kernel
theorem dX9_moves_42 : decode cX9_moves 42 = .ok (.iload 4, 2) := by decide +kernel
theorem dX9_moves_44 : decode cX9_moves 44 = .ok (.invokestatic 304, 3) := by decide +kernel
theorem dX9_moves_47 : decode cX9_moves 47 = .ok (.iaload, 1) := by decide +kernel
theorem dX9_moves_48 : decode cX9_moves 48 = .ok (.iconst 1, 1) := by decide +kernel
theorem dX9_moves_49 : decode cX9_moves 49 = .ok (.isub, 1) := by decide +kernel
theorem dX9_moves_50 : decode cX9_moves 50 = .ok (.istore 5, 2) := by decide +kernel
theorem dX9_moves_52 : decode cX9_moves 52 = .ok (.aload_n 0, 1) := by decide +kernel
theorem dX9_moves_53 : decode cX9_moves 53 = .ok (.iload 5, 2) := by decide +kernel
theorem dX9_moves_55 : decode cX9_moves 55 = .ok (.invokevirtual 328, 3) := by decide +kernel
theorem dX9_moves_58 : decode cX9_moves 58 = .ok (.aload_n 0, 1) := by decide +kernel
theorem dX9_moves_59 : decode cX9_moves 59 = .ok (.iload 5, 2) := by decide +kernel
theorem dX9_moves_61 : decode cX9_moves 61 = .ok (.iload_n 3, 1) := by decide +kernel
theorem dX9_moves_62 : decode cX9_moves 62 = .ok (.invokevirtual 349, 3) := by decide +kernel
theorem dX9_moves_65 : decode cX9_moves 65 = .ok (.aload_n 0, 1) := by decide +kernel
theorem dX9_moves_66 : decode cX9_moves 66 = .ok (.getfield 35, 3) := by decide +kernel
theorem dX9_moves_69 : decode cX9_moves 69 = .ok (.iconst 4, 1) := by decide +kernel
theorem dX9_moves_70 : decode cX9_moves 70 = .ok (.dup2, 1) := by decide +kernel
theorem dX9_moves_71 : decode cX9_moves 71 = .ok (.iaload, 1) := by decide +kernel
theorem dX9_moves_72 : decode cX9_moves 72 = .ok (.iconst 1, 1) := by decide +kernel
theorem dX9_moves_73 : decode cX9_moves 73 = .ok (.iadd, 1) := by decide +kernel
theorem dX9_moves_74 : decode cX9_moves 74 = .ok (.iastore, 1) := by decide +kernel
theorem dX9_moves_75 : decode cX9_moves 75 = .ok (.return_, 1) := by decide +kernel
theorem dX9_looseOf_0 : decode cX9_looseOf 0 = .ok (.iconst 0, 1) := by decide +kernel
theorem dX9_looseOf_1 : decode cX9_looseOf 1 = .ok (.istore_n 2, 1) := by decide +kernel
theorem dX9_looseOf_2 : decode cX9_looseOf 2 = .ok (.iconst 0, 1) := by decide +kernel
theorem dX9_looseOf_3 : decode cX9_looseOf 3 = .ok (.istore_n 3, 1) := by decide +kernel
theorem dX9_looseOf_4 : decode cX9_looseOf 4 = .ok (.iload_n 3, 1) := by decide +kernel
theorem dX9_looseOf_5 : decode cX9_looseOf 5 = .ok (.bipush 24, 2) := by decide +kernel
theorem dX9_looseOf_7 : decode cX9_looseOf 7 = .ok (.if_icmp .ge 34, 3) := by decide +kernel
theorem dX9_looseOf_10 : decode cX9_looseOf 10 = .ok (.iload_n 2, 1) := by decide +kernel
theorem dX9_looseOf_11 : decode cX9_looseOf 11 = .ok (.aload_n 0, 1) := by decide +kernel
theorem dX9_looseOf_12 : decode cX9_looseOf 12 = .ok (.iload_n 3, 1) := by decide +kernel
theorem dX9_looseOf_13 : decode cX9_looseOf 13 = .ok (.invokevirtual 310, 3) := by decide +kernel
theorem dX9_looseOf_16 : decode cX9_looseOf 16 = .ok (.iload_n 1, 1) := by decide +kernel
theorem dX9_looseOf_17 : decode cX9_looseOf 17 = .ok (.if_icmp .ne 15, 3) := by decide +kernel
theorem dX9_looseOf_20 : decode cX9_looseOf 20 = .ok (.aload_n 0, 1) := by decide +kernel
theorem dX9_looseOf_21 : decode cX9_looseOf 21 = .ok (.iload_n 3, 1) := by decide +kernel
theorem dX9_looseOf_22 : decode cX9_looseOf 22 = .ok (.invokevirtual 313, 3) := by decide +kernel
theorem dX9_looseOf_25 : decode cX9_looseOf 25 = .ok (.ifCond .ne 7, 3) := by decide +kernel
theorem dX9_looseOf_28 : decode cX9_looseOf 28 = .ok (.iconst 1, 1) := by decide +kernel
theorem dX9_looseOf_29 : decode cX9_looseOf 29 = .ok (.goto 4, 3) := by decide +kernel
theorem dX9_looseOf_32 : decode cX9_looseOf 32 = .ok (.iconst 0, 1) := by decide +kernel
theorem dX9_looseOf_33 : decode cX9_looseOf 33 = .ok (.iadd, 1) := by decide +kernel
theorem dX9_looseOf_34 : decode cX9_looseOf 34 = .ok (.istore_n 2, 1) := by decide +kernel
theorem dX9_looseOf_35 : decode cX9_looseOf 35 = .ok (.iinc 3 1, 3) := by decide +kernel
theorem dX9_looseOf_38 : decode cX9_looseOf 38 = .ok (.goto (-34), 3) := by decide +kernel
theorem dX9_looseOf_41 : decode cX9_looseOf 41 = .ok (.iload_n 2, 1) := by decide +kernel
theorem dX9_looseOf_42 : decode cX9_looseOf 42 = .ok (.ireturn, 1) := by decide +kernel
theorem dX9_compacts_0 : decode cX9_compacts 0 = .ok (.aload_n 0, 1) := by decide +kernel
theorem dX9_compacts_1 : decode cX9_compacts 1 = .ok (.invokevirtual 356, 3) := by decide +kernel
theorem dX9_compacts_4 : decode cX9_compacts 4 = .ok (.istore_n 1, 1) := by decide +kernel
theorem dX9_compacts_5 : decode cX9_compacts 5 = .ok (.aload_n 0, 1) := by decide +kernel
theorem dX9_compacts_6 : decode cX9_compacts 6 = .ok (.getfield 229, 3) := by decide +kernel
theorem dX9_compacts_9 : decode cX9_compacts 9 = .ok (.istore_n 2, 1) := by decide +kernel
theorem dX9_compacts_10 : decode cX9_compacts 10 = .ok (.iload_n 2, 1) := by decide +kernel
theorem dX9_compacts_11 : decode cX9_compacts 11 = .ok (.bipush 16, 2) := by decide +kernel
theorem dX9_compacts_13 : decode cX9_compacts 13 = .ok (.if_icmp .gt 30, 3) := by decide +kernel
theorem dX9_compacts_16 : decode cX9_compacts 16 = .ok (.aload_n 0, 1) := by decide +kernel
theorem dX9_compacts_17 : decode cX9_compacts 17 = .ok (.iload_n 2, 1) := by decide +kernel
theorem dX9_compacts_18 : decode cX9_compacts 18 = .ok (.invokevirtual 389, 3) := by decide +kernel
theorem dX9_compacts_21 : decode cX9_compacts 21 = .ok (.iconst 1, 1) := by decide +kernel
theorem dX9_compacts_22 : decode cX9_compacts 22 = .ok (.if_icmp .le 11, 3) := by decide +kernel
theorem dX9_compacts_25 : decode cX9_compacts 25 = .ok (.aload_n 0, 1) := by decide +kernel
theorem dX9_compacts_26 : decode cX9_compacts 26 = .ok (.iload_n 2, 1) := by decide +kernel
theorem dX9_compacts_27 : decode cX9_compacts 27 = .ok (.invokevirtual 392, 3) := by decide +kernel
theorem dX9_compacts_30 : decode cX9_compacts 30 = .ok (.goto (-14), 3) := by decide +kernel
theorem dX9_compacts_33 : decode cX9_compacts 33 = .ok (.iload_n 2, 1) := by decide +kernel
theorem dX9_compacts_34 : decode cX9_compacts 34 = .ok (.aload_n 0, 1) := by decide +kernel
theorem dX9_compacts_35 : decode cX9_compacts 35 = .ok (.getfield 229, 3) := by decide +kernel
theorem dX9_compacts_38 : decode cX9_compacts 38 = .ok (.iadd, 1) := by decide +kernel
theorem dX9_compacts_39 : decode cX9_compacts 39 = .ok (.istore_n 2, 1) := by decide +kernel
theorem dX9_compacts_40 : decode cX9_compacts 40 = .ok (.goto (-30), 3) := by decide +kernel
theorem dX9_compacts_43 : decode cX9_compacts 43 = .ok (.iload_n 1, 1) := by decide +kernel
theorem dX9_compacts_44 : decode cX9_compacts 44 = .ok (.aload_n 0, 1) := by decide +kernel
theorem dX9_compacts_45 : decode cX9_compacts 45 = .ok (.invokevirtual 356, 3) := by decide +kernel
theorem dX9_compacts_48 : decode cX9_compacts 48 = .ok (.isub, 1) := by decide +kernel
theorem dX9_compacts_49 : decode cX9_compacts 49 = .ok (.ireturn, 1) := by decide +kernel
theorem dX9_keepsAside_0 : decode cX9_keepsAside 0 = .ok (.iconst 0, 1) := by decide +kernel
theorem dX9_keepsAside_1 : decode cX9_keepsAside 1 = .ok (.istore_n 1, 1) := by decide +kernel
theorem dX9_keepsAside_2 : decode cX9_keepsAside 2 = .ok (.iload_n 1, 1) := by decide +kernel
theorem dX9_keepsAside_3 : decode cX9_keepsAside 3 = .ok (.sipush 1234, 3) := by decide +kernel
theorem dX9_keepsAside_6 : decode cX9_keepsAside 6 = .ok (.if_icmp .ge 21, 3) := by decide +kernel
theorem dX9_keepsAside_9 : decode cX9_keepsAside 9 = .ok (.aload_n 0, 1) := by decide +kernel
theorem dX9_keepsAside_10 : decode cX9_keepsAside 10 = .ok (.getfield 38, 3) := by decide +kernel
theorem dX9_keepsAside_13 : decode cX9_keepsAside 13 = .ok (.iload_n 1, 1) := by decide +kernel
theorem dX9_keepsAside_14 : decode cX9_keepsAside 14 = .ok (.aload_n 0, 1) := by decide +kernel
theorem dX9_keepsAside_15 : decode cX9_keepsAside 15 = .ok (.getfield 35, 3) := by decide +kernel
theorem dX9_keepsAside_18 : decode cX9_keepsAside 18 = .ok (.iload_n 1, 1) := by decide +kernel
theorem dX9_keepsAside_19 : decode cX9_keepsAside 19 = .ok (.iaload, 1) := by decide +kernel
theorem dX9_keepsAside_20 : decode cX9_keepsAside 20 = .ok (.iastore, 1) := by decide +kernel
theorem dX9_keepsAside_21 : decode cX9_keepsAside 21 = .ok (.iinc 1 1, 3) := by decide +kernel
theorem dX9_keepsAside_24 : decode cX9_keepsAside 24 = .ok (.goto (-22), 3) := by decide +kernel
theorem dX9_keepsAside_27 : decode cX9_keepsAside 27 = .ok (.return_, 1) := by decide +kernel
theorem dX9_bringsBack_0 : decode cX9_bringsBack 0 = .ok (.iconst 0, 1) := by decide +kernel
theorem dX9_bringsBack_1 : decode cX9_bringsBack 1 = .ok (.istore_n 1, 1) := by decide +kernel
theorem dX9_bringsBack_2 : decode cX9_bringsBack 2 = .ok (.iload_n 1, 1) := by decide +kernel
theorem dX9_bringsBack_3 : decode cX9_bringsBack 3 = .ok (.sipush 1234, 3) := by decide +kernel
theorem dX9_bringsBack_6 : decode cX9_bringsBack 6 = .ok (.if_icmp .ge 21, 3) := by decide +kernel
theorem dX9_bringsBack_9 : decode cX9_bringsBack 9 = .ok (.aload_n 0, 1) := by decide +kernel
theorem dX9_bringsBack_10 : decode cX9_bringsBack 10 = .ok (.getfield 35, 3) := by decide +kernel
theorem dX9_bringsBack_13 : decode cX9_bringsBack 13 = .ok (.iload_n 1, 1) := by decide +kernel
theorem dX9_bringsBack_14 : decode cX9_bringsBack 14 = .ok (.aload_n 0, 1) := by decide +kernel
theorem dX9_bringsBack_15 : decode cX9_bringsBack 15 = .ok (.getfield 38, 3) := by decide +kernel
theorem dX9_bringsBack_18 : decode cX9_bringsBack 18 = .ok (.iload_n 1, 1) := by decide +kernel
theorem dX9_bringsBack_19 : decode cX9_bringsBack 19 = .ok (.iaload, 1) := by decide +kernel
theorem dX9_bringsBack_20 : decode cX9_bringsBack 20 = .ok (.iastore, 1) := by decide +kernel
theorem dX9_bringsBack_21 : decode cX9_bringsBack 21 = .ok (.iinc 1 1, 3) := by decide +kernel
theorem dX9_bringsBack_24 : decode cX9_bringsBack 24 = .ok (.goto (-22), 3) := by decide +kernel
theorem dX9_bringsBack_27 : decode cX9_bringsBack 27 = .ok (.return_, 1) := by decide +kernel
theorem dX9_gain_0 : decode cX9_gain 0 = .ok (.aload_n 0, 1) := by decide +kernel
theorem dX9_gain_1 : decode cX9_gain 1 = .ok (.iconst 0, 1) := by decide +kernel
theorem dX9_gain_2 : decode cX9_gain 2 = .ok (.putfield 75, 3) := by decide +kernel
theorem dX9_gain_5 : decode cX9_gain 5 = .ok (.aload_n 0, 1) := by decide +kernel
theorem dX9_gain_6 : decode cX9_gain 6 = .ok (.getfield 225, 3) := by decide +kernel
theorem dX9_gain_9 : decode cX9_gain 9 = .ok (.ifCond .ne 9, 3) := by decide +kernel
theorem dX9_gain_12 : decode cX9_gain 12 = .ok (.aload_n 0, 1) := by decide +kernel
theorem dX9_gain_13 : decode cX9_gain 13 = .ok (.iconst 1, 1) := by decide +kernel
theorem dX9_gain_14 : decode cX9_gain 14 = .ok (.invokevirtual 210, 3) := by decide +kernel
theorem dX9_gain_17 : decode cX9_gain 17 = .ok (.ireturn, 1) := by decide +kernel
theorem dX9_gain_18 : decode cX9_gain 18 = .ok (.aload_n 0, 1) := by decide +kernel
theorem dX9_gain_19 : decode cX9_gain 19 = .ok (.invokevirtual 395, 3) := by decide +kernel
theorem dX9_gain_22 : decode cX9_gain 22 = .ok (.aload_n 0, 1) := by decide +kernel
theorem dX9_gain_23 : decode cX9_gain 23 = .ok (.invokevirtual 398, 3) := by decide +kernel
theorem dX9_gain_26 : decode cX9_gain 26 = .ok (.istore_n 1, 1) := by decide +kernel
theorem dX9_gain_27 : decode cX9_gain 27 = .ok (.aload_n 0, 1) := by decide +kernel
theorem dX9_gain_28 : decode cX9_gain 28 = .ok (.invokevirtual 401, 3) := by decide +kernel
theorem dX9_gain_31 : decode cX9_gain 31 = .ok (.aload_n 0, 1) := by decide +kernel
theorem dX9_gain_32 : decode cX9_gain 32 = .ok (.iload_n 1, 1) := by decide +kernel
theorem dX9_gain_33 : decode cX9_gain 33 = .ok (.invokevirtual 222, 3) := by decide +kernel
theorem dX9_gain_36 : decode cX9_gain 36 = .ok (.ireturn, 1) := by decide +kernel
theorem dX9_goes_0 : decode cX9_goes 0 = .ok (.iconst 0, 1) := by decide +kernel
theorem dX9_goes_1 : decode cX9_goes 1 = .ok (.istore_n 2, 1) := by decide +kernel
theorem dX9_goes_2 : decode cX9_goes 2 = .ok (.aload_n 0, 1) := by decide +kernel
theorem dX9_goes_3 : decode cX9_goes 3 = .ok (.invokevirtual 356, 3) := by decide +kernel
theorem dX9_goes_6 : decode cX9_goes 6 = .ok (.iload_n 1, 1) := by decide +kernel
theorem dX9_goes_7 : decode cX9_goes 7 = .ok (.if_icmp .le 22, 3) := by decide +kernel
theorem dX9_goes_10 : decode cX9_goes 10 = .ok (.aload_n 0, 1) := by decide +kernel
theorem dX9_goes_11 : decode cX9_goes 11 = .ok (.invokevirtual 337, 3) := by decide +kernel
theorem dX9_goes_14 : decode cX9_goes 14 = .ok (.iconst (-1), 1) := by decide +kernel
theorem dX9_goes_15 : decode cX9_goes 15 = .ok (.if_icmp .eq 14, 3) := by decide +kernel
theorem dX9_goes_18 : decode cX9_goes 18 = .ok (.aload_n 0, 1) := by decide +kernel
theorem dX9_goes_19 : decode cX9_goes 19 = .ok (.invokevirtual 362, 3) := by decide +kernel
theorem dX9_goes_22 : decode cX9_goes 22 = .ok (.pop, 1) := by decide +kernel
theorem dX9_goes_23 : decode cX9_goes 23 = .ok (.iinc 2 1, 3) := by decide +kernel
theorem dX9_goes_26 : decode cX9_goes 26 = .ok (.goto (-24), 3) := by decide +kernel
theorem dX9_goes_29 : decode cX9_goes 29 = .ok (.iload_n 2, 1) := by decide +kernel
theorem dX9_goes_30 : decode cX9_goes 30 = .ok (.ireturn, 1) := by decide +kernel
theorem dX9_would_0 : decode cX9_would 0 = .ok (.aload_n 0, 1) := by decide +kernel
theorem dX9_would_1 : decode cX9_would 1 = .ok (.iconst 0, 1) := by decide +kernel
theorem dX9_would_2 : decode cX9_would 2 = .ok (.putfield 75, 3) := by decide +kernel
theorem dX9_would_5 : decode cX9_would 5 = .ok (.aload_n 0, 1) := by decide +kernel
theorem dX9_would_6 : decode cX9_would 6 = .ok (.getfield 225, 3) := by decide +kernel
theorem dX9_would_9 : decode cX9_would 9 = .ok (.ifCond .ne 9, 3) := by decide +kernel
theorem dX9_would_12 : decode cX9_would 12 = .ok (.aload_n 0, 1) := by decide +kernel
theorem dX9_would_13 : decode cX9_would 13 = .ok (.iconst 1, 1) := by decide +kernel
theorem dX9_would_14 : decode cX9_would 14 = .ok (.invokevirtual 210, 3) := by decide +kernel
theorem dX9_would_17 : decode cX9_would 17 = .ok (.ireturn, 1) := by decide +kernel
theorem dX9_would_18 : decode cX9_would 18 = .ok (.iload_n 1, 1) := by decide +kernel
theorem dX9_would_19 : decode cX9_would 19 = .ok (.iconst 1, 1) := by decide +kernel
theorem dX9_would_20 : decode cX9_would 20 = .ok (.bipush 24, 2) := by decide +kernel
theorem dX9_would_22 : decode cX9_would 22 = .ok (.invokestatic 100, 3) := by decide +kernel
theorem dX9_would_25 : decode cX9_would 25 = .ok (.ifCond .ne 9, 3) := by decide +kernel
theorem dX9_would_28 : decode cX9_would 28 = .ok (.aload_n 0, 1) := by decide +kernel
theorem dX9_would_29 : decode cX9_would 29 = .ok (.iconst 2, 1) := by decide +kernel
theorem dX9_would_30 : decode cX9_would 30 = .ok (.invokevirtual 210, 3) := by decide +kernel
theorem dX9_would_33 : decode cX9_would 33 = .ok (.ireturn, 1) := by decide +kernel
theorem dX9_would_34 : decode cX9_would 34 = .ok (.aload_n 0, 1) := by decide +kernel
theorem dX9_would_35 : decode cX9_would 35 = .ok (.invokevirtual 395, 3) := by decide +kernel
theorem dX9_would_38 : decode cX9_would 38 = .ok (.iload_n 2, 1) := by decide +kernel
theorem dX9_would_39 : decode cX9_would 39 = .ok (.ifCond .eq 8, 3) := by decide +kernel
theorem dX9_would_42 : decode cX9_would 42 = .ok (.aload_n 0, 1) := by decide +kernel
theorem dX9_would_43 : decode cX9_would 43 = .ok (.invokevirtual 398, 3) := by decide +kernel
theorem dX9_would_46 : decode cX9_would 46 = .ok (.pop, 1) := by decide +kernel
theorem dX9_would_47 : decode cX9_would 47 = .ok (.aload_n 0, 1) := by decide +kernel
theorem dX9_would_48 : decode cX9_would 48 = .ok (.iload_n 1, 1) := by decide +kernel
theorem dX9_would_49 : decode cX9_would 49 = .ok (.invokevirtual 404, 3) := by decide +kernel
theorem dX9_would_52 : decode cX9_would 52 = .ok (.istore_n 3, 1) := by decide +kernel
theorem dX9_would_53 : decode cX9_would 53 = .ok (.aload_n 0, 1) := by decide +kernel
theorem dX9_would_54 : decode cX9_would 54 = .ok (.invokevirtual 401, 3) := by decide +kernel
theorem dX9_would_57 : decode cX9_would 57 = .ok (.aload_n 0, 1) := by decide +kernel
theorem dX9_would_58 : decode cX9_would 58 = .ok (.iload_n 3, 1) := by decide +kernel
theorem dX9_would_59 : decode cX9_would 59 = .ok (.invokevirtual 222, 3) := by decide +kernel
theorem dX9_would_62 : decode cX9_would 62 = .ok (.ireturn, 1) := by decide +kernel
theorem dX9_holds_0 : decode cX9_holds 0 = .ok (.aload_n 0, 1) := by decide +kernel
theorem dX9_holds_1 : decode cX9_holds 1 = .ok (.iconst 0, 1) := by decide +kernel
theorem dX9_holds_2 : decode cX9_holds 2 = .ok (.putfield 75, 3) := by decide +kernel
theorem dX9_holds_5 : decode cX9_holds 5 = .ok (.aload_n 0, 1) := by decide +kernel
theorem dX9_holds_6 : decode cX9_holds 6 = .ok (.getfield 225, 3) := by decide +kernel
theorem dX9_holds_9 : decode cX9_holds 9 = .ok (.ifCond .ne 9, 3) := by decide +kernel
theorem dX9_holds_12 : decode cX9_holds 12 = .ok (.aload_n 0, 1) := by decide +kernel
theorem dX9_holds_13 : decode cX9_holds 13 = .ok (.iconst 1, 1) := by decide +kernel
theorem dX9_holds_14 : decode cX9_holds 14 = .ok (.invokevirtual 210, 3) := by decide +kernel
theorem dX9_holds_17 : decode cX9_holds 17 = .ok (.ireturn, 1) := by decide +kernel
theorem dX9_holds_18 : decode cX9_holds 18 = .ok (.aload_n 0, 1) := by decide +kernel
theorem dX9_holds_19 : decode cX9_holds 19 = .ok (.invokevirtual 395, 3) := by decide +kernel
theorem dX9_holds_22 : decode cX9_holds 22 = .ok (.iload_n 1, 1) := by decide +kernel
theorem dX9_holds_23 : decode cX9_holds 23 = .ok (.ifCond .eq 8, 3) := by decide +kernel
theorem dX9_holds_26 : decode cX9_holds 26 = .ok (.aload_n 0, 1) := by decide +kernel
theorem dX9_holds_27 : decode cX9_holds 27 = .ok (.invokevirtual 398, 3) := by decide +kernel
theorem dX9_holds_30 : decode cX9_holds 30 = .ok (.pop, 1) := by decide +kernel
theorem dX9_holds_31 : decode cX9_holds 31 = .ok (.aload_n 0, 1) := by decide +kernel
theorem dX9_holds_32 : decode cX9_holds 32 = .ok (.invokevirtual 356, 3) := by decide +kernel
theorem dX9_holds_35 : decode cX9_holds 35 = .ok (.istore_n 2, 1) := by decide +kernel
theorem dX9_holds_36 : decode cX9_holds 36 = .ok (.aload_n 0, 1) := by decide +kernel
theorem dX9_holds_37 : decode cX9_holds 37 = .ok (.invokevirtual 337, 3) := by decide +kernel
theorem dX9_holds_40 : decode cX9_holds 40 = .ok (.iconst (-1), 1) := by decide +kernel
theorem dX9_holds_41 : decode cX9_holds 41 = .ok (.if_icmp .ne 7, 3) := by decide +kernel
theorem dX9_holds_44 : decode cX9_holds 44 = .ok (.iconst 1, 1) := by decide +kernel
theorem dX9_holds_45 : decode cX9_holds 45 = .ok (.goto 4, 3) := by decide +kernel
theorem dX9_holds_48 : decode cX9_holds 48 = .ok (.iconst 0, 1) := by decide +kernel
theorem dX9_holds_49 : decode cX9_holds 49 = .ok (.istore_n 3, 1) := by decide +kernel
theorem dX9_holds_50 : decode cX9_holds 50 = .ok (.aload_n 0, 1) := by decide +kernel
theorem dX9_holds_51 : decode cX9_holds 51 = .ok (.invokevirtual 401, 3) := by decide +kernel
theorem dX9_holds_54 : decode cX9_holds 54 = .ok (.aload_n 0, 1) := by decide +kernel
theorem dX9_holds_55 : decode cX9_holds 55 = .ok (.iload_n 2, 1) := by decide +kernel
theorem dX9_holds_56 : decode cX9_holds 56 = .ok (.ifCond .eq 7, 3) := by decide +kernel
theorem dX9_holds_59 : decode cX9_holds 59 = .ok (.iload_n 3, 1) := by decide +kernel
theorem dX9_holds_60 : decode cX9_holds 60 = .ok (.ifCond .eq 7, 3) := by decide +kernel
theorem dX9_holds_63 : decode cX9_holds 63 = .ok (.iconst 1, 1) := by decide +kernel
theorem dX9_holds_64 : decode cX9_holds 64 = .ok (.goto 4, 3) := by decide +kernel
theorem dX9_holds_67 : decode cX9_holds 67 = .ok (.iload_n 2, 1) := by decide +kernel
theorem dX9_holds_68 : decode cX9_holds 68 = .ok (.invokevirtual 222, 3) := by decide +kernel
theorem dX9_holds_71 : decode cX9_holds 71 = .ok (.ireturn, 1) := by decide +kernel
theorem dX9_freeing_0 : decode cX9_freeing 0 = .ok (.aload_n 0, 1) := by decide +kernel
theorem dX9_freeing_1 : decode cX9_freeing 1 = .ok (.iconst 0, 1) := by decide +kernel
theorem dX9_freeing_2 : decode cX9_freeing 2 = .ok (.putfield 75, 3) := by decide +kernel
theorem dX9_freeing_5 : decode cX9_freeing 5 = .ok (.aload_n 0, 1) := by decide +kernel
theorem dX9_freeing_6 : decode cX9_freeing 6 = .ok (.getfield 225, 3) := by decide +kernel
theorem dX9_freeing_9 : decode cX9_freeing 9 = .ok (.ifCond .ne 9, 3) := by decide +kernel
theorem dX9_freeing_12 : decode cX9_freeing 12 = .ok (.aload_n 0, 1) := by decide +kernel
theorem dX9_freeing_13 : decode cX9_freeing 13 = .ok (.iconst 1, 1) := by decide +kernel
theorem dX9_freeing_14 : decode cX9_freeing 14 = .ok (.invokevirtual 210, 3) := by decide +kernel
theorem dX9_freeing_17 : decode cX9_freeing 17 = .ok (.ireturn, 1) := by decide +kernel
theorem dX9_freeing_18 : decode cX9_freeing 18 = .ok (.aload_n 0, 1) := by decide +kernel
theorem dX9_freeing_19 : decode cX9_freeing 19 = .ok (.invokevirtual 395, 3) := by decide +kernel
theorem dX9_freeing_22 : decode cX9_freeing 22 = .ok (.aload_n 0, 1) := by decide +kernel
theorem dX9_freeing_23 : decode cX9_freeing 23 = .ok (.invokevirtual 356, 3) := by decide +kernel
theorem dX9_freeing_26 : decode cX9_freeing 26 = .ok (.istore_n 1, 1) := by decide +kernel
theorem dX9_freeing_27 : decode cX9_freeing 27 = .ok (.iconst 0, 1) := by decide +kernel
theorem dX9_freeing_28 : decode cX9_freeing 28 = .ok (.istore_n 2, 1) := by decide +kernel
theorem dX9_freeing_29 : decode cX9_freeing 29 = .ok (.aload_n 0, 1) := by decide +kernel
theorem dX9_freeing_30 : decode cX9_freeing 30 = .ok (.invokevirtual 356, 3) := by decide +kernel
theorem dX9_freeing_33 : decode cX9_freeing 33 = .ok (.iload_n 1, 1) := by decide +kernel
theorem dX9_freeing_34 : decode cX9_freeing 34 = .ok (.if_icmp .ne 22, 3) := by decide +kernel
theorem dX9_freeing_37 : decode cX9_freeing 37 = .ok (.aload_n 0, 1) := by decide +kernel
theorem dX9_freeing_38 : decode cX9_freeing 38 = .ok (.invokevirtual 337, 3) := by decide +kernel
theorem dX9_freeing_41 : decode cX9_freeing 41 = .ok (.iconst (-1), 1) := by decide +kernel
theorem dX9_freeing_42 : decode cX9_freeing 42 = .ok (.if_icmp .eq 14, 3) := by decide +kernel
theorem dX9_freeing_45 : decode cX9_freeing 45 = .ok (.aload_n 0, 1) := by decide +kernel
theorem dX9_freeing_46 : decode cX9_freeing 46 = .ok (.invokevirtual 362, 3) := by decide +kernel
theorem dX9_freeing_49 : decode cX9_freeing 49 = .ok (.pop, 1) := by decide +kernel
theorem dX9_freeing_50 : decode cX9_freeing 50 = .ok (.iinc 2 1, 3) := by decide +kernel
theorem dX9_freeing_53 : decode cX9_freeing 53 = .ok (.goto (-24), 3) := by decide +kernel
theorem dX9_freeing_56 : decode cX9_freeing 56 = .ok (.aload_n 0, 1) := by decide +kernel
theorem dX9_freeing_57 : decode cX9_freeing 57 = .ok (.invokevirtual 356, 3) := by decide +kernel
theorem dX9_freeing_60 : decode cX9_freeing 60 = .ok (.iload_n 1, 1) := by decide +kernel
theorem dX9_freeing_61 : decode cX9_freeing 61 = .ok (.if_icmp .ge 7, 3) := by decide +kernel
theorem dX9_freeing_64 : decode cX9_freeing 64 = .ok (.iconst 1, 1) := by decide +kernel
theorem dX9_freeing_65 : decode cX9_freeing 65 = .ok (.goto 4, 3) := by decide +kernel
theorem dX9_freeing_68 : decode cX9_freeing 68 = .ok (.iconst 0, 1) := by decide +kernel
theorem dX9_freeing_69 : decode cX9_freeing 69 = .ok (.istore_n 3, 1) := by decide +kernel
theorem dX9_freeing_70 : decode cX9_freeing 70 = .ok (.aload_n 0, 1) := by decide +kernel
theorem dX9_freeing_71 : decode cX9_freeing 71 = .ok (.invokevirtual 401, 3) := by decide +kernel
theorem dX9_freeing_74 : decode cX9_freeing 74 = .ok (.aload_n 0, 1) := by decide +kernel
theorem dX9_freeing_75 : decode cX9_freeing 75 = .ok (.iload_n 3, 1) := by decide +kernel
theorem dX9_freeing_76 : decode cX9_freeing 76 = .ok (.ifCond .eq 7, 3) := by decide +kernel
theorem dX9_freeing_79 : decode cX9_freeing 79 = .ok (.iload_n 2, 1) := by decide +kernel
theorem dX9_freeing_80 : decode cX9_freeing 80 = .ok (.goto 5, 3) := by decide +kernel
theorem dX9_freeing_83 : decode cX9_freeing 83 = .ok (.bipush (-2), 2) := by decide +kernel
theorem dX9_freeing_85 : decode cX9_freeing 85 = .ok (.invokevirtual 222, 3) := by decide +kernel
theorem dX9_freeing_88 : decode cX9_freeing 88 = .ok (.ireturn, 1) := by decide +kernel
theorem dX9_framesBy_0 : decode cX9_framesBy 0 = .ok (.iconst 0, 1) := by decide +kernel
theorem dX9_framesBy_1 : decode cX9_framesBy 1 = .ok (.istore_n 2, 1) := by decide +kernel
theorem dX9_framesBy_2 : decode cX9_framesBy 2 = .ok (.iload_n 1, 1) := by decide +kernel
theorem dX9_framesBy_3 : decode cX9_framesBy 3 = .ok (.istore_n 3, 1) := by decide +kernel
theorem dX9_framesBy_4 : decode cX9_framesBy 4 = .ok (.iload_n 3, 1) := by decide +kernel
theorem dX9_framesBy_5 : decode cX9_framesBy 5 = .ok (.bipush 16, 2) := by decide +kernel
theorem dX9_framesBy_7 : decode cX9_framesBy 7 = .ok (.if_icmp .gt 90, 3) := by decide +kernel
theorem dX9_framesBy_10 : decode cX9_framesBy 10 = .ok (.iconst 0, 1) := by decide +kernel
theorem dX9_framesBy_11 : decode cX9_framesBy 11 = .ok (.istore 4, 2) := by decide +kernel
theorem dX9_framesBy_13 : decode cX9_framesBy 13 = .ok (.iconst 0, 1) := by decide +kernel
theorem dX9_framesBy_14 : decode cX9_framesBy 14 = .ok (.istore 5, 2) := by decide +kernel
theorem dX9_framesBy_16 : decode cX9_framesBy 16 = .ok (.iload 5, 2) := by decide +kernel
theorem dX9_framesBy_18 : decode cX9_framesBy 18 = .ok (.bipush 30, 2) := by decide +kernel
theorem dX9_framesBy_20 : decode cX9_framesBy 20 = .ok (.if_icmp .ge 48, 3) := by decide +kernel
theorem dX9_framesBy_23 : decode cX9_framesBy 23 = .ok (.iload 4, 2) := by decide +kernel
theorem dX9_framesBy_25 : decode cX9_framesBy 25 = .ok (.aload_n 0, 1) := by decide +kernel
theorem dX9_framesBy_26 : decode cX9_framesBy 26 = .ok (.iload 5, 2) := by decide +kernel
theorem dX9_framesBy_28 : decode cX9_framesBy 28 = .ok (.invokevirtual 325, 3) := by decide +kernel
theorem dX9_framesBy_31 : decode cX9_framesBy 31 = .ok (.iconst 2, 1) := by decide +kernel
theorem dX9_framesBy_32 : decode cX9_framesBy 32 = .ok (.if_icmp .ne 26, 3) := by decide +kernel
theorem dX9_framesBy_35 : decode cX9_framesBy 35 = .ok (.aload_n 0, 1) := by decide +kernel
theorem dX9_framesBy_36 : decode cX9_framesBy 36 = .ok (.getfield 35, 3) := by decide +kernel
theorem dX9_framesBy_39 : decode cX9_framesBy 39 = .ok (.sipush 195, 3) := by decide +kernel
theorem dX9_framesBy_42 : decode cX9_framesBy 42 = .ok (.iload 5, 2) := by decide +kernel
theorem dX9_framesBy_44 : decode cX9_framesBy 44 = .ok (.iadd, 1) := by decide +kernel
theorem dX9_framesBy_45 : decode cX9_framesBy 45 = .ok (.iaload, 1) := by decide +kernel
theorem dX9_framesBy_46 : decode cX9_framesBy 46 = .ok (.iload_n 1, 1) := by decide +kernel
theorem dX9_framesBy_47 : decode cX9_framesBy 47 = .ok (.invokestatic 289, 3) := by decide +kernel
theorem dX9_framesBy_50 : decode cX9_framesBy 50 = .ok (.iload_n 3, 1) := by decide +kernel
theorem dX9_framesBy_51 : decode cX9_framesBy 51 = .ok (.if_icmp .ne 7, 3) := by decide +kernel
theorem dX9_framesBy_54 : decode cX9_framesBy 54 = .ok (.iconst 1, 1) := by decide +kernel
theorem dX9_framesBy_55 : decode cX9_framesBy 55 = .ok (.goto 4, 3) := by decide +kernel
theorem dX9_framesBy_58 : decode cX9_framesBy 58 = .ok (.iconst 0, 1) := by decide +kernel
theorem dX9_framesBy_59 : decode cX9_framesBy 59 = .ok (.iadd, 1) := by decide +kernel
theorem dX9_framesBy_60 : decode cX9_framesBy 60 = .ok (.istore 4, 2) := by decide +kernel
theorem dX9_framesBy_62 : decode cX9_framesBy 62 = .ok (.iinc 5 1, 3) := by decide +kernel
theorem dX9_framesBy_65 : decode cX9_framesBy 65 = .ok (.goto (-49), 3) := by decide +kernel
theorem dX9_framesBy_68 : decode cX9_framesBy 68 = .ok (.iload_n 2, 1) := by decide +kernel
theorem dX9_framesBy_69 : decode cX9_framesBy 69 = .ok (.iload 4, 2) := by decide +kernel
theorem dX9_framesBy_71 : decode cX9_framesBy 71 = .ok (.iload_n 3, 1) := by decide +kernel
theorem dX9_framesBy_72 : decode cX9_framesBy 72 = .ok (.invokestatic 295, 3) := by decide +kernel
theorem dX9_framesBy_75 : decode cX9_framesBy 75 = .ok (.iadd, 1) := by decide +kernel
theorem dX9_framesBy_76 : decode cX9_framesBy 76 = .ok (.iconst 1, 1) := by decide +kernel
theorem dX9_framesBy_77 : decode cX9_framesBy 77 = .ok (.isub, 1) := by decide +kernel
theorem dX9_framesBy_78 : decode cX9_framesBy 78 = .ok (.iload_n 3, 1) := by decide +kernel
theorem dX9_framesBy_79 : decode cX9_framesBy 79 = .ok (.invokestatic 295, 3) := by decide +kernel
theorem dX9_framesBy_82 : decode cX9_framesBy 82 = .ok (.idiv, 1) := by decide +kernel
theorem dX9_framesBy_83 : decode cX9_framesBy 83 = .ok (.iload_n 3, 1) := by decide +kernel
theorem dX9_framesBy_84 : decode cX9_framesBy 84 = .ok (.invokestatic 286, 3) := by decide +kernel
theorem dX9_framesBy_87 : decode cX9_framesBy 87 = .ok (.imul, 1) := by decide +kernel
theorem dX9_framesBy_88 : decode cX9_framesBy 88 = .ok (.iadd, 1) := by decide +kernel
theorem dX9_framesBy_89 : decode cX9_framesBy 89 = .ok (.istore_n 2, 1) := by decide +kernel
theorem dX9_framesBy_90 : decode cX9_framesBy 90 = .ok (.iload_n 3, 1) := by decide +kernel
theorem dX9_framesBy_91 : decode cX9_framesBy 91 = .ok (.iload_n 1, 1) := by decide +kernel
theorem dX9_framesBy_92 : decode cX9_framesBy 92 = .ok (.iadd, 1) := by decide +kernel
theorem dX9_framesBy_93 : decode cX9_framesBy 93 = .ok (.istore_n 3, 1) := by decide +kernel
theorem dX9_framesBy_94 : decode cX9_framesBy 94 = .ok (.goto (-90), 3) := by decide +kernel
theorem dX9_framesBy_97 : decode cX9_framesBy 97 = .ok (.iload_n 2, 1) := by decide +kernel
theorem dX9_framesBy_98 : decode cX9_framesBy 98 = .ok (.ireturn, 1) := by decide +kernel
theorem dX9_fittest_0 : decode cX9_fittest 0 = .ok (.aload_n 0, 1) := by decide +kernel
theorem dX9_fittest_1 : decode cX9_fittest 1 = .ok (.iconst 0, 1) := by decide +kernel
theorem dX9_fittest_2 : decode cX9_fittest 2 = .ok (.putfield 75, 3) := by decide +kernel
theorem dX9_fittest_5 : decode cX9_fittest 5 = .ok (.aload_n 0, 1) := by decide +kernel
theorem dX9_fittest_6 : decode cX9_fittest 6 = .ok (.getfield 225, 3) := by decide +kernel
theorem dX9_fittest_9 : decode cX9_fittest 9 = .ok (.ifCond .ne 9, 3) := by decide +kernel
theorem dX9_fittest_12 : decode cX9_fittest 12 = .ok (.aload_n 0, 1) := by decide +kernel
theorem dX9_fittest_13 : decode cX9_fittest 13 = .ok (.iconst 1, 1) := by decide +kernel
theorem dX9_fittest_14 : decode cX9_fittest 14 = .ok (.invokevirtual 210, 3) := by decide +kernel
theorem dX9_fittest_17 : decode cX9_fittest 17 = .ok (.ireturn, 1) := by decide +kernel
theorem dX9_fittest_18 : decode cX9_fittest 18 = .ok (.iconst 1, 1) := by decide +kernel
theorem dX9_fittest_19 : decode cX9_fittest 19 = .ok (.istore_n 1, 1) := by decide +kernel
theorem dX9_fittest_20 : decode cX9_fittest 20 = .ok (.iconst 2, 1) := by decide +kernel
theorem dX9_fittest_21 : decode cX9_fittest 21 = .ok (.istore_n 2, 1) := by decide +kernel
theorem dX9_fittest_22 : decode cX9_fittest 22 = .ok (.iload_n 2, 1) := by decide +kernel
theorem dX9_fittest_23 : decode cX9_fittest 23 = .ok (.iconst 4, 1) := by decide +kernel
theorem dX9_fittest_24 : decode cX9_fittest 24 = .ok (.if_icmp .gt 24, 3) := by decide +kernel
theorem dX9_fittest_27 : decode cX9_fittest 27 = .ok (.aload_n 0, 1) := by decide +kernel
theorem dX9_fittest_28 : decode cX9_fittest 28 = .ok (.iload_n 2, 1) := by decide +kernel
theorem dX9_fittest_29 : decode cX9_fittest 29 = .ok (.invokevirtual 407, 3) := by decide +kernel
theorem dX9_fittest_32 : decode cX9_fittest 32 = .ok (.aload_n 0, 1) := by decide +kernel
theorem dX9_fittest_33 : decode cX9_fittest 33 = .ok (.iload_n 1, 1) := by decide +kernel
theorem dX9_fittest_34 : decode cX9_fittest 34 = .ok (.invokevirtual 407, 3) := by decide +kernel
theorem dX9_fittest_37 : decode cX9_fittest 37 = .ok (.if_icmp .ge 5, 3) := by decide +kernel
theorem dX9_fittest_40 : decode cX9_fittest 40 = .ok (.iload_n 2, 1) := by decide +kernel
theorem dX9_fittest_41 : decode cX9_fittest 41 = .ok (.istore_n 1, 1) := by decide +kernel
theorem dX9_fittest_42 : decode cX9_fittest 42 = .ok (.iinc 2 1, 3) := by decide +kernel
theorem dX9_fittest_45 : decode cX9_fittest 45 = .ok (.goto (-23), 3) := by decide +kernel
theorem dX9_fittest_48 : decode cX9_fittest 48 = .ok (.aload_n 0, 1) := by decide +kernel
theorem dX9_fittest_49 : decode cX9_fittest 49 = .ok (.iload_n 1, 1) := by decide +kernel
theorem dX9_fittest_50 : decode cX9_fittest 50 = .ok (.invokevirtual 222, 3) := by decide +kernel
theorem dX9_fittest_53 : decode cX9_fittest 53 = .ok (.ireturn, 1) := by decide +kernel
theorem dX9_layPushes_0 : decode cX9_layPushes 0 = .ok (.aload_n 0, 1) := by decide +kernel
theorem dX9_layPushes_1 : decode cX9_layPushes 1 = .ok (.iload_n 1, 1) := by decide +kernel
theorem dX9_layPushes_2 : decode cX9_layPushes 2 = .ok (.invokevirtual 374, 3) := by decide +kernel
theorem dX9_layPushes_5 : decode cX9_layPushes 5 = .ok (.ifCond .eq 11, 3) := by decide +kernel
theorem dX9_layPushes_8 : decode cX9_layPushes 8 = .ok (.aload_n 0, 1) := by decide +kernel
theorem dX9_layPushes_9 : decode cX9_layPushes 9 = .ok (.iload_n 2, 1) := by decide +kernel
theorem dX9_layPushes_10 : decode cX9_layPushes 10 = .ok (.invokevirtual 271, 3) := by decide +kernel
theorem dX9_layPushes_13 : decode cX9_layPushes 13 = .ok (.ifCond .ne 5, 3) := by decide +kernel
theorem dX9_layPushes_16 : decode cX9_layPushes 16 = .ok (.iconst 0, 1) := by decide +kernel
theorem dX9_layPushes_17 : decode cX9_layPushes 17 = .ok (.ireturn, 1) := by decide +kernel
theorem dX9_layPushes_18 : decode cX9_layPushes 18 = .ok (.aload_n 0, 1) := by decide +kernel
theorem dX9_layPushes_19 : decode cX9_layPushes 19 = .ok (.invokevirtual 395, 3) := by decide +kernel
theorem dX9_layPushes_22 : decode cX9_layPushes 22 = .ok (.aload_n 0, 1) := by decide +kernel
theorem dX9_layPushes_23 : decode cX9_layPushes 23 = .ok (.iload_n 1, 1) := by decide +kernel
theorem dX9_layPushes_24 : decode cX9_layPushes 24 = .ok (.iload_n 2, 1) := by decide +kernel
theorem dX9_layPushes_25 : decode cX9_layPushes 25 = .ok (.invokevirtual 410, 3) := by decide +kernel
theorem dX9_layPushes_28 : decode cX9_layPushes 28 = .ok (.pop, 1) := by decide +kernel
theorem dX9_layPushes_29 : decode cX9_layPushes 29 = .ok (.aload_n 0, 1) := by decide +kernel
theorem dX9_layPushes_30 : decode cX9_layPushes 30 = .ok (.invokevirtual 401, 3) := by decide +kernel
theorem dX9_layPushes_33 : decode cX9_layPushes 33 = .ok (.iconst 1, 1) := by decide +kernel
theorem dX9_layPushes_34 : decode cX9_layPushes 34 = .ok (.ireturn, 1) := by decide +kernel
theorem dX9_pushes_0 : decode cX9_pushes 0 = .ok (.aload_n 0, 1) := by decide +kernel
theorem dX9_pushes_1 : decode cX9_pushes 1 = .ok (.iconst 0, 1) := by decide +kernel
theorem dX9_pushes_2 : decode cX9_pushes 2 = .ok (.putfield 75, 3) := by decide +kernel
theorem dX9_pushes_5 : decode cX9_pushes 5 = .ok (.aload_n 0, 1) := by decide +kernel
theorem dX9_pushes_6 : decode cX9_pushes 6 = .ok (.iload_n 1, 1) := by decide +kernel
theorem dX9_pushes_7 : decode cX9_pushes 7 = .ok (.iload_n 2, 1) := by decide +kernel
theorem dX9_pushes_8 : decode cX9_pushes 8 = .ok (.invokevirtual 413, 3) := by decide +kernel
theorem dX9_pushes_11 : decode cX9_pushes 11 = .ok (.ifCond .eq 14, 3) := by decide +kernel
theorem dX9_pushes_14 : decode cX9_pushes 14 = .ok (.aload_n 0, 1) := by decide +kernel
theorem dX9_pushes_15 : decode cX9_pushes 15 = .ok (.aload_n 0, 1) := by decide +kernel
theorem dX9_pushes_16 : decode cX9_pushes 16 = .ok (.getfield 343, 3) := by decide +kernel
theorem dX9_pushes_19 : decode cX9_pushes 19 = .ok (.invokevirtual 222, 3) := by decide +kernel
theorem dX9_pushes_22 : decode cX9_pushes 22 = .ok (.goto 8, 3) := by decide +kernel
theorem dX9_pushes_25 : decode cX9_pushes 25 = .ok (.aload_n 0, 1) := by decide +kernel
theorem dX9_pushes_26 : decode cX9_pushes 26 = .ok (.iconst 1, 1) := by decide +kernel
theorem dX9_pushes_27 : decode cX9_pushes 27 = .ok (.invokevirtual 210, 3) := by decide +kernel
theorem dX9_pushes_30 : decode cX9_pushes 30 = .ok (.ireturn, 1) := by decide +kernel
theorem dX9_pushed_0 : decode cX9_pushed 0 = .ok (.aload_n 0, 1) := by decide +kernel
theorem dX9_pushed_1 : decode cX9_pushed 1 = .ok (.iconst 0, 1) := by decide +kernel
theorem dX9_pushed_2 : decode cX9_pushed 2 = .ok (.putfield 75, 3) := by decide +kernel
theorem dX9_pushed_5 : decode cX9_pushed 5 = .ok (.aload_n 0, 1) := by decide +kernel
theorem dX9_pushed_6 : decode cX9_pushed 6 = .ok (.iload_n 1, 1) := by decide +kernel
theorem dX9_pushed_7 : decode cX9_pushed 7 = .ok (.iload_n 2, 1) := by decide +kernel
theorem dX9_pushed_8 : decode cX9_pushed 8 = .ok (.invokevirtual 413, 3) := by decide +kernel
theorem dX9_pushed_11 : decode cX9_pushed 11 = .ok (.ifCond .eq 15, 3) := by decide +kernel
theorem dX9_pushed_14 : decode cX9_pushed 14 = .ok (.iload_n 3, 1) := by decide +kernel
theorem dX9_pushed_15 : decode cX9_pushed 15 = .ok (.ifCond .lt 11, 3) := by decide +kernel
theorem dX9_pushed_18 : decode cX9_pushed 18 = .ok (.iload_n 3, 1) := by decide +kernel
theorem dX9_pushed_19 : decode cX9_pushed 19 = .ok (.aload_n 0, 1) := by decide +kernel
theorem dX9_pushed_20 : decode cX9_pushed 20 = .ok (.getfield 343, 3) := by decide +kernel
theorem dX9_pushed_23 : decode cX9_pushed 23 = .ok (.if_icmp .lt 9, 3) := by decide +kernel
theorem dX9_pushed_26 : decode cX9_pushed 26 = .ok (.aload_n 0, 1) := by decide +kernel
theorem dX9_pushed_27 : decode cX9_pushed 27 = .ok (.iconst 1, 1) := by decide +kernel
theorem dX9_pushed_28 : decode cX9_pushed 28 = .ok (.invokevirtual 210, 3) := by decide +kernel
theorem dX9_pushed_31 : decode cX9_pushed 31 = .ok (.ireturn, 1) := by decide +kernel
theorem dX9_pushed_32 : decode cX9_pushed 32 = .ok (.aload_n 0, 1) := by decide +kernel
theorem dX9_pushed_33 : decode cX9_pushed 33 = .ok (.aload_n 0, 1) := by decide +kernel
theorem dX9_pushed_34 : decode cX9_pushed 34 = .ok (.getfield 72, 3) := by decide +kernel
theorem dX9_pushed_37 : decode cX9_pushed 37 = .ok (.iload_n 3, 1) := by decide +kernel
theorem dX9_pushed_38 : decode cX9_pushed 38 = .ok (.iaload, 1) := by decide +kernel
theorem dX9_pushed_39 : decode cX9_pushed 39 = .ok (.invokevirtual 222, 3) := by decide +kernel
theorem dX9_pushed_42 : decode cX9_pushed 42 = .ok (.ireturn, 1) := by decide +kernel
theorem dX9_does_0 : decode cX9_does 0 = .ok (.aload_n 0, 1) := by decide +kernel
theorem dX9_does_1 : decode cX9_does 1 = .ok (.getfield 17, 3) := by decide +kernel
theorem dX9_does_4 : decode cX9_does 4 = .ok (.iload_n 1, 1) := by decide +kernel
theorem dX9_does_5 : decode cX9_does 5 = .ok (.iaload, 1) := by decide +kernel
theorem dX9_does_6 : decode cX9_does 6 = .ok (.istore_n 2, 1) := by decide +kernel
theorem dX9_does_7 : decode cX9_does 7 = .ok (.aload_n 0, 1) := by decide +kernel
theorem dX9_does_8 : decode cX9_does 8 = .ok (.getfield 13, 3) := by decide +kernel
theorem dX9_does_11 : decode cX9_does 11 = .ok (.iload_n 1, 1) := by decide +kernel
theorem dX9_does_12 : decode cX9_does 12 = .ok (.iaload, 1) := by decide +kernel
theorem dX9_does_13 : decode cX9_does 13 = .ok (.ifCond .ne 18, 3) := by decide +kernel
theorem dX9_does_16 : decode cX9_does 16 = .ok (.aload_n 0, 1) := by decide +kernel
theorem dX9_does_17 : decode cX9_does 17 = .ok (.iload_n 2, 1) := by decide +kernel
theorem dX9_does_18 : decode cX9_does 18 = .ok (.aload_n 0, 1) := by decide +kernel
theorem dX9_does_19 : decode cX9_does 19 = .ok (.getfield 20, 3) := by decide +kernel
theorem dX9_does_22 : decode cX9_does 22 = .ok (.iload_n 1, 1) := by decide +kernel
theorem dX9_does_23 : decode cX9_does 23 = .ok (.iaload, 1) := by decide +kernel
theorem dX9_does_24 : decode cX9_does 24 = .ok (.invokevirtual 410, 3) := by decide +kernel
theorem dX9_does_27 : decode cX9_does 27 = .ok (.pop, 1) := by decide +kernel
theorem dX9_does_28 : decode cX9_does 28 = .ok (.goto 26, 3) := by decide +kernel
theorem dX9_does_31 : decode cX9_does 31 = .ok (.aload_n 0, 1) := by decide +kernel
theorem dX9_does_32 : decode cX9_does 32 = .ok (.getfield 13, 3) := by decide +kernel
theorem dX9_does_35 : decode cX9_does 35 = .ok (.iload_n 1, 1) := by decide +kernel
theorem dX9_does_36 : decode cX9_does 36 = .ok (.iaload, 1) := by decide +kernel
theorem dX9_does_37 : decode cX9_does 37 = .ok (.iconst 1, 1) := by decide +kernel
theorem dX9_does_38 : decode cX9_does 38 = .ok (.if_icmp .ne 11, 3) := by decide +kernel
theorem dX9_does_41 : decode cX9_does 41 = .ok (.aload_n 0, 1) := by decide +kernel
theorem dX9_does_42 : decode cX9_does 42 = .ok (.iload_n 2, 1) := by decide +kernel
theorem dX9_does_43 : decode cX9_does 43 = .ok (.invokevirtual 417, 3) := by decide +kernel
theorem dX9_does_46 : decode cX9_does 46 = .ok (.goto 8, 3) := by decide +kernel
theorem dX9_does_49 : decode cX9_does 49 = .ok (.aload_n 0, 1) := by decide +kernel
theorem dX9_does_50 : decode cX9_does 50 = .ok (.iload_n 2, 1) := by decide +kernel
theorem dX9_does_51 : decode cX9_does 51 = .ok (.invokevirtual 368, 3) := by decide +kernel
theorem dX9_does_54 : decode cX9_does 54 = .ok (.return_, 1) := by decide +kernel
theorem dX9_foretells_0 : decode cX9_foretells 0 = .ok (.aload_n 0, 1) := by decide +kernel
theorem dX9_foretells_1 : decode cX9_foretells 1 = .ok (.getfield 229, 3) := by decide +kernel
theorem dX9_foretells_4 : decode cX9_foretells 4 = .ok (.istore 4, 2) := by decide +kernel
theorem dX9_foretells_6 : decode cX9_foretells 6 = .ok (.aload_n 0, 1) := by decide +kernel
theorem dX9_foretells_7 : decode cX9_foretells 7 = .ok (.invokevirtual 395, 3) := by decide +kernel
theorem dX9_foretells_10 : decode cX9_foretells 10 = .ok (.aload_n 0, 1) := by decide +kernel
theorem dX9_foretells_11 : decode cX9_foretells 11 = .ok (.invokevirtual 236, 3) := by decide +kernel
theorem dX9_foretells_14 : decode cX9_foretells 14 = .ok (.aload_n 0, 1) := by decide +kernel
theorem dX9_foretells_15 : decode cX9_foretells 15 = .ok (.getfield 35, 3) := by decide +kernel
theorem dX9_foretells_18 : decode cX9_foretells 18 = .ok (.iconst 0, 1) := by decide +kernel
theorem dX9_foretells_19 : decode cX9_foretells 19 = .ok (.iload_n 1, 1) := by decide +kernel
theorem dX9_foretells_20 : decode cX9_foretells 20 = .ok (.iastore, 1) := by decide +kernel
theorem dX9_foretells_21 : decode cX9_foretells 21 = .ok (.aload_n 0, 1) := by decide +kernel
theorem dX9_foretells_22 : decode cX9_foretells 22 = .ok (.iload_n 2, 1) := by decide +kernel
theorem dX9_foretells_23 : decode cX9_foretells 23 = .ok (.putfield 229, 3) := by decide +kernel
theorem dX9_foretells_26 : decode cX9_foretells 26 = .ok (.iconst 0, 1) := by decide +kernel
theorem dX9_foretells_27 : decode cX9_foretells 27 = .ok (.istore 5, 2) := by decide +kernel
theorem dX9_foretells_29 : decode cX9_foretells 29 = .ok (.iload 5, 2) := by decide +kernel
theorem dX9_foretells_31 : decode cX9_foretells 31 = .ok (.aload_n 0, 1) := by decide +kernel
theorem dX9_foretells_32 : decode cX9_foretells 32 = .ok (.getfield 233, 3) := by decide +kernel
theorem dX9_foretells_35 : decode cX9_foretells 35 = .ok (.if_icmp .ge 15, 3) := by decide +kernel
theorem dX9_foretells_38 : decode cX9_foretells 38 = .ok (.aload_n 0, 1) := by decide +kernel
theorem dX9_foretells_39 : decode cX9_foretells 39 = .ok (.iload 5, 2) := by decide +kernel
theorem dX9_foretells_41 : decode cX9_foretells 41 = .ok (.invokevirtual 420, 3) := by decide +kernel
theorem dX9_foretells_44 : decode cX9_foretells 44 = .ok (.iinc 5 1, 3) := by decide +kernel
theorem dX9_foretells_47 : decode cX9_foretells 47 = .ok (.goto (-18), 3) := by decide +kernel
theorem dX9_foretells_50 : decode cX9_foretells 50 = .ok (.aload_n 0, 1) := by decide +kernel
theorem dX9_foretells_51 : decode cX9_foretells 51 = .ok (.getfield 35, 3) := by decide +kernel
theorem dX9_foretells_54 : decode cX9_foretells 54 = .ok (.iconst 1, 1) := by decide +kernel
theorem dX9_foretells_55 : decode cX9_foretells 55 = .ok (.iload_n 3, 1) := by decide +kernel
theorem dX9_foretells_56 : decode cX9_foretells 56 = .ok (.iadd, 1) := by decide +kernel
theorem dX9_foretells_57 : decode cX9_foretells 57 = .ok (.iaload, 1) := by decide +kernel
theorem dX9_foretells_58 : decode cX9_foretells 58 = .ok (.istore 5, 2) := by decide +kernel
theorem dX9_foretells_60 : decode cX9_foretells 60 = .ok (.aload_n 0, 1) := by decide +kernel
theorem dX9_foretells_61 : decode cX9_foretells 61 = .ok (.iload 4, 2) := by decide +kernel
theorem dX9_foretells_63 : decode cX9_foretells 63 = .ok (.putfield 229, 3) := by decide +kernel
theorem dX9_foretells_66 : decode cX9_foretells 66 = .ok (.aload_n 0, 1) := by decide +kernel
theorem dX9_foretells_67 : decode cX9_foretells 67 = .ok (.invokevirtual 401, 3) := by decide +kernel
theorem dX9_foretells_70 : decode cX9_foretells 70 = .ok (.iload 5, 2) := by decide +kernel
theorem dX9_foretells_72 : decode cX9_foretells 72 = .ok (.ireturn, 1) := by decide +kernel
theorem dX9_foretold_0 : decode cX9_foretold 0 = .ok (.aload_n 0, 1) := by decide +kernel
theorem dX9_foretold_1 : decode cX9_foretold 1 = .ok (.iconst 0, 1) := by decide +kernel
theorem dX9_foretold_2 : decode cX9_foretold 2 = .ok (.putfield 75, 3) := by decide +kernel
theorem dX9_foretold_5 : decode cX9_foretold 5 = .ok (.aload_n 0, 1) := by decide +kernel
theorem dX9_foretold_6 : decode cX9_foretold 6 = .ok (.getfield 225, 3) := by decide +kernel
theorem dX9_foretold_9 : decode cX9_foretold 9 = .ok (.ifCond .eq 12, 3) := by decide +kernel
theorem dX9_foretold_12 : decode cX9_foretold 12 = .ok (.iload_n 3, 1) := by decide +kernel
theorem dX9_foretold_13 : decode cX9_foretold 13 = .ok (.iconst 0, 1) := by decide +kernel
theorem dX9_foretold_14 : decode cX9_foretold 14 = .ok (.iconst 2, 1) := by decide +kernel
theorem dX9_foretold_15 : decode cX9_foretold 15 = .ok (.invokestatic 100, 3) := by decide +kernel
theorem dX9_foretold_18 : decode cX9_foretold 18 = .ok (.ifCond .ne 9, 3) := by decide +kernel
theorem dX9_foretold_21 : decode cX9_foretold 21 = .ok (.aload_n 0, 1) := by decide +kernel
theorem dX9_foretold_22 : decode cX9_foretold 22 = .ok (.iconst 1, 1) := by decide +kernel
theorem dX9_foretold_23 : decode cX9_foretold 23 = .ok (.invokevirtual 210, 3) := by decide +kernel
theorem dX9_foretold_26 : decode cX9_foretold 26 = .ok (.ireturn, 1) := by decide +kernel
theorem dX9_foretold_27 : decode cX9_foretold 27 = .ok (.iload_n 1, 1) := by decide +kernel
theorem dX9_foretold_28 : decode cX9_foretold 28 = .ok (.iconst 1, 1) := by decide +kernel
theorem dX9_foretold_29 : decode cX9_foretold 29 = .ok (.bipush 24, 2) := by decide +kernel
theorem dX9_foretold_31 : decode cX9_foretold 31 = .ok (.invokestatic 100, 3) := by decide +kernel
theorem dX9_foretold_34 : decode cX9_foretold 34 = .ok (.ifCond .eq 12, 3) := by decide +kernel
theorem dX9_foretold_37 : decode cX9_foretold 37 = .ok (.iload_n 2, 1) := by decide +kernel
theorem dX9_foretold_38 : decode cX9_foretold 38 = .ok (.iconst 1, 1) := by decide +kernel
theorem dX9_foretold_39 : decode cX9_foretold 39 = .ok (.iconst 4, 1) := by decide +kernel
theorem dX9_foretold_40 : decode cX9_foretold 40 = .ok (.invokestatic 100, 3) := by decide +kernel
theorem dX9_foretold_43 : decode cX9_foretold 43 = .ok (.ifCond .ne 9, 3) := by decide +kernel
theorem dX9_foretold_46 : decode cX9_foretold 46 = .ok (.aload_n 0, 1) := by decide +kernel
theorem dX9_foretold_47 : decode cX9_foretold 47 = .ok (.iconst 2, 1) := by decide +kernel
theorem dX9_foretold_48 : decode cX9_foretold 48 = .ok (.invokevirtual 210, 3) := by decide +kernel
theorem dX9_foretold_51 : decode cX9_foretold 51 = .ok (.ireturn, 1) := by decide +kernel
theorem dX9_foretold_52 : decode cX9_foretold 52 = .ok (.aload_n 0, 1) := by decide +kernel
theorem dX9_foretold_53 : decode cX9_foretold 53 = .ok (.aload_n 0, 1) := by decide +kernel
theorem dX9_foretold_54 : decode cX9_foretold 54 = .ok (.iload_n 1, 1) := by decide +kernel
theorem dX9_foretold_55 : decode cX9_foretold 55 = .ok (.iload_n 2, 1) := by decide +kernel
theorem dX9_foretold_56 : decode cX9_foretold 56 = .ok (.iload_n 3, 1) := by decide +kernel
theorem dX9_foretold_57 : decode cX9_foretold 57 = .ok (.invokevirtual 423, 3) := by decide +kernel
theorem dX9_foretold_60 : decode cX9_foretold 60 = .ok (.invokevirtual 222, 3) := by decide +kernel
theorem dX9_foretold_63 : decode cX9_foretold 63 = .ok (.ireturn, 1) := by decide +kernel
theorem dX9_enough_0 : decode cX9_enough 0 = .ok (.aload_n 0, 1) := by decide +kernel
theorem dX9_enough_1 : decode cX9_enough 1 = .ok (.iconst 0, 1) := by decide +kernel
theorem dX9_enough_2 : decode cX9_enough 2 = .ok (.putfield 75, 3) := by decide +kernel
theorem dX9_enough_5 : decode cX9_enough 5 = .ok (.aload_n 0, 1) := by decide +kernel
theorem dX9_enough_6 : decode cX9_enough 6 = .ok (.getfield 225, 3) := by decide +kernel
theorem dX9_enough_9 : decode cX9_enough 9 = .ok (.ifCond .ne 9, 3) := by decide +kernel
theorem dX9_enough_12 : decode cX9_enough 12 = .ok (.aload_n 0, 1) := by decide +kernel
theorem dX9_enough_13 : decode cX9_enough 13 = .ok (.iconst 1, 1) := by decide +kernel
theorem dX9_enough_14 : decode cX9_enough 14 = .ok (.invokevirtual 210, 3) := by decide +kernel
theorem dX9_enough_17 : decode cX9_enough 17 = .ok (.ireturn, 1) := by decide +kernel
theorem dX9_enough_18 : decode cX9_enough 18 = .ok (.iconst 1, 1) := by decide +kernel
theorem dX9_enough_19 : decode cX9_enough 19 = .ok (.istore_n 1, 1) := by decide +kernel
theorem dX9_enough_20 : decode cX9_enough 20 = .ok (.iload_n 1, 1) := by decide +kernel
theorem dX9_enough_21 : decode cX9_enough 21 = .ok (.bipush 24, 2) := by decide +kernel
theorem dX9_enough_23 : decode cX9_enough 23 = .ok (.if_icmp .gt 28, 3) := by decide +kernel
theorem dX9_enough_26 : decode cX9_enough 26 = .ok (.aload_n 0, 1) := by decide +kernel
theorem dX9_enough_27 : decode cX9_enough 27 = .ok (.iload_n 1, 1) := by decide +kernel
theorem dX9_enough_28 : decode cX9_enough 28 = .ok (.aload_n 0, 1) := by decide +kernel
theorem dX9_enough_29 : decode cX9_enough 29 = .ok (.getfield 229, 3) := by decide +kernel
theorem dX9_enough_32 : decode cX9_enough 32 = .ok (.iconst 1, 1) := by decide +kernel
theorem dX9_enough_33 : decode cX9_enough 33 = .ok (.invokevirtual 423, 3) := by decide +kernel
theorem dX9_enough_36 : decode cX9_enough 36 = .ok (.ifCond .ne 9, 3) := by decide +kernel
theorem dX9_enough_39 : decode cX9_enough 39 = .ok (.aload_n 0, 1) := by decide +kernel
theorem dX9_enough_40 : decode cX9_enough 40 = .ok (.iload_n 1, 1) := by decide +kernel
theorem dX9_enough_41 : decode cX9_enough 41 = .ok (.invokevirtual 222, 3) := by decide +kernel
theorem dX9_enough_44 : decode cX9_enough 44 = .ok (.ireturn, 1) := by decide +kernel
theorem dX9_enough_45 : decode cX9_enough 45 = .ok (.iinc 1 1, 3) := by decide +kernel
theorem dX9_enough_48 : decode cX9_enough 48 = .ok (.goto (-28), 3) := by decide +kernel
theorem dX9_enough_51 : decode cX9_enough 51 = .ok (.aload_n 0, 1) := by decide +kernel
theorem dX9_enough_52 : decode cX9_enough 52 = .ok (.bipush (-2), 2) := by decide +kernel
theorem dX9_enough_54 : decode cX9_enough 54 = .ok (.invokevirtual 222, 3) := by decide +kernel
theorem dX9_enough_57 : decode cX9_enough 57 = .ok (.ireturn, 1) := by decide +kernel
theorem dX9_op_0 : decode cX9_op 0 = .ok (.aload_n 0, 1) := by decide +kernel
theorem dX9_op_1 : decode cX9_op 1 = .ok (.iconst 0, 1) := by decide +kernel
theorem dX9_op_2 : decode cX9_op 2 = .ok (.putfield 75, 3) := by decide +kernel
theorem dX9_op_5 : decode cX9_op 5 = .ok (.aload_n 0, 1) := by decide +kernel
theorem dX9_op_6 : decode cX9_op 6 = .ok (.getfield 225, 3) := by decide +kernel
theorem dX9_op_9 : decode cX9_op 9 = .ok (.ifCond .eq 24, 3) := by decide +kernel
theorem dX9_op_12 : decode cX9_op 12 = .ok (.iload_n 1, 1) := by decide +kernel
theorem dX9_op_13 : decode cX9_op 13 = .ok (.ifCond .lt 20, 3) := by decide +kernel
theorem dX9_op_16 : decode cX9_op 16 = .ok (.iload_n 1, 1) := by decide +kernel
theorem dX9_op_17 : decode cX9_op 17 = .ok (.aload_n 0, 1) := by decide +kernel
theorem dX9_op_18 : decode cX9_op 18 = .ok (.getfield 233, 3) := by decide +kernel
theorem dX9_op_21 : decode cX9_op 21 = .ok (.if_icmp .ge 12, 3) := by decide +kernel
theorem dX9_op_24 : decode cX9_op 24 = .ok (.iload_n 2, 1) := by decide +kernel
theorem dX9_op_25 : decode cX9_op 25 = .ok (.iconst 0, 1) := by decide +kernel
theorem dX9_op_26 : decode cX9_op 26 = .ok (.iconst 2, 1) := by decide +kernel
theorem dX9_op_27 : decode cX9_op 27 = .ok (.invokestatic 100, 3) := by decide +kernel
theorem dX9_op_30 : decode cX9_op 30 = .ok (.ifCond .ne 9, 3) := by decide +kernel
theorem dX9_op_33 : decode cX9_op 33 = .ok (.aload_n 0, 1) := by decide +kernel
theorem dX9_op_34 : decode cX9_op 34 = .ok (.iconst 1, 1) := by decide +kernel
theorem dX9_op_35 : decode cX9_op 35 = .ok (.invokevirtual 210, 3) := by decide +kernel
theorem dX9_op_38 : decode cX9_op 38 = .ok (.ireturn, 1) := by decide +kernel
theorem dX9_op_39 : decode cX9_op 39 = .ok (.aload_n 0, 1) := by decide +kernel
theorem dX9_op_40 : decode cX9_op 40 = .ok (.iload_n 2, 1) := by decide +kernel
theorem dX9_op_41 : decode cX9_op 41 = .ok (.ifCond .ne 12, 3) := by decide +kernel
theorem dX9_op_44 : decode cX9_op 44 = .ok (.aload_n 0, 1) := by decide +kernel
theorem dX9_op_45 : decode cX9_op 45 = .ok (.getfield 13, 3) := by decide +kernel
theorem dX9_op_48 : decode cX9_op 48 = .ok (.iload_n 1, 1) := by decide +kernel
theorem dX9_op_49 : decode cX9_op 49 = .ok (.iaload, 1) := by decide +kernel
theorem dX9_op_50 : decode cX9_op 50 = .ok (.goto 23, 3) := by decide +kernel
theorem dX9_op_53 : decode cX9_op 53 = .ok (.iload_n 2, 1) := by decide +kernel
theorem dX9_op_54 : decode cX9_op 54 = .ok (.iconst 1, 1) := by decide +kernel
theorem dX9_op_55 : decode cX9_op 55 = .ok (.if_icmp .ne 12, 3) := by decide +kernel
theorem dX9_op_58 : decode cX9_op 58 = .ok (.aload_n 0, 1) := by decide +kernel
theorem dX9_op_59 : decode cX9_op 59 = .ok (.getfield 17, 3) := by decide +kernel
theorem dX9_op_62 : decode cX9_op 62 = .ok (.iload_n 1, 1) := by decide +kernel
theorem dX9_op_63 : decode cX9_op 63 = .ok (.iaload, 1) := by decide +kernel
theorem dX9_op_64 : decode cX9_op 64 = .ok (.goto 9, 3) := by decide +kernel
theorem dX9_op_67 : decode cX9_op 67 = .ok (.aload_n 0, 1) := by decide +kernel
theorem dX9_op_68 : decode cX9_op 68 = .ok (.getfield 20, 3) := by decide +kernel
theorem dX9_op_71 : decode cX9_op 71 = .ok (.iload_n 1, 1) := by decide +kernel
theorem dX9_op_72 : decode cX9_op 72 = .ok (.iaload, 1) := by decide +kernel
theorem dX9_op_73 : decode cX9_op 73 = .ok (.invokevirtual 222, 3) := by decide +kernel
theorem dX9_op_76 : decode cX9_op 76 = .ok (.ireturn, 1) := by decide +kernel
theorem dX9_remembers_0 : decode cX9_remembers 0 = .ok (.aload_n 0, 1) := by decide +kernel
theorem dX9_remembers_1 : decode cX9_remembers 1 = .ok (.getfield 239, 3) := by decide +kernel
theorem dX9_remembers_4 : decode cX9_remembers 4 = .ok (.bipush 10, 2) := by decide +kernel
theorem dX9_remembers_6 : decode cX9_remembers 6 = .ok (.if_icmp .ne 44, 3) := by decide +kernel
theorem dX9_remembers_9 : decode cX9_remembers 9 = .ok (.iconst 0, 1) := by decide +kernel
theorem dX9_remembers_10 : decode cX9_remembers 10 = .ok (.istore_n 1, 1) := by decide +kernel
theorem dX9_remembers_11 : decode cX9_remembers 11 = .ok (.iload_n 1, 1) := by decide +kernel
theorem dX9_remembers_12 : decode cX9_remembers 12 = .ok (.sipush 11106, 3) := by decide +kernel
theorem dX9_remembers_15 : decode cX9_remembers 15 = .ok (.if_icmp .ge 25, 3) := by decide +kernel
theorem dX9_remembers_18 : decode cX9_remembers 18 = .ok (.aload_n 0, 1) := by decide +kernel
theorem dX9_remembers_19 : decode cX9_remembers 19 = .ok (.getfield 41, 3) := by decide +kernel
theorem dX9_remembers_22 : decode cX9_remembers 22 = .ok (.iload_n 1, 1) := by decide +kernel
theorem dX9_remembers_23 : decode cX9_remembers 23 = .ok (.aload_n 0, 1) := by decide +kernel
theorem dX9_remembers_24 : decode cX9_remembers 24 = .ok (.getfield 41, 3) := by decide +kernel
theorem dX9_remembers_27 : decode cX9_remembers 27 = .ok (.iload_n 1, 1) := by decide +kernel
theorem dX9_remembers_28 : decode cX9_remembers 28 = .ok (.sipush 1234, 3) := by decide +kernel
theorem dX9_remembers_31 : decode cX9_remembers 31 = .ok (.iadd, 1) := by decide +kernel
theorem dX9_remembers_32 : decode cX9_remembers 32 = .ok (.iaload, 1) := by decide +kernel
theorem dX9_remembers_33 : decode cX9_remembers 33 = .ok (.iastore, 1) := by decide +kernel
theorem dX9_remembers_34 : decode cX9_remembers 34 = .ok (.iinc 1 1, 3) := by decide +kernel
theorem dX9_remembers_37 : decode cX9_remembers 37 = .ok (.goto (-26), 3) := by decide +kernel
theorem dX9_remembers_40 : decode cX9_remembers 40 = .ok (.aload_n 0, 1) := by decide +kernel
theorem dX9_remembers_41 : decode cX9_remembers 41 = .ok (.dup, 1) := by decide +kernel
theorem dX9_remembers_42 : decode cX9_remembers 42 = .ok (.getfield 239, 3) := by decide +kernel
theorem dX9_remembers_45 : decode cX9_remembers 45 = .ok (.iconst 1, 1) := by decide +kernel
theorem dX9_remembers_46 : decode cX9_remembers 46 = .ok (.isub, 1) := by decide +kernel
theorem dX9_remembers_47 : decode cX9_remembers 47 = .ok (.putfield 239, 3) := by decide +kernel
theorem dX9_remembers_50 : decode cX9_remembers 50 = .ok (.iconst 0, 1) := by decide +kernel
theorem dX9_remembers_51 : decode cX9_remembers 51 = .ok (.istore_n 1, 1) := by decide +kernel
theorem dX9_remembers_52 : decode cX9_remembers 52 = .ok (.iload_n 1, 1) := by decide +kernel
theorem dX9_remembers_53 : decode cX9_remembers 53 = .ok (.sipush 1234, 3) := by decide +kernel
theorem dX9_remembers_56 : decode cX9_remembers 56 = .ok (.if_icmp .ge 30, 3) := by decide +kernel
theorem dX9_remembers_59 : decode cX9_remembers 59 = .ok (.aload_n 0, 1) := by decide +kernel
theorem dX9_remembers_60 : decode cX9_remembers 60 = .ok (.getfield 41, 3) := by decide +kernel
theorem dX9_remembers_63 : decode cX9_remembers 63 = .ok (.sipush 1234, 3) := by decide +kernel
theorem dX9_remembers_66 : decode cX9_remembers 66 = .ok (.aload_n 0, 1) := by decide +kernel
theorem dX9_remembers_67 : decode cX9_remembers 67 = .ok (.getfield 239, 3) := by decide +kernel
theorem dX9_remembers_70 : decode cX9_remembers 70 = .ok (.imul, 1) := by decide +kernel
theorem dX9_remembers_71 : decode cX9_remembers 71 = .ok (.iload_n 1, 1) := by decide +kernel
theorem dX9_remembers_72 : decode cX9_remembers 72 = .ok (.iadd, 1) := by decide +kernel
theorem dX9_remembers_73 : decode cX9_remembers 73 = .ok (.aload_n 0, 1) := by decide +kernel
theorem dX9_remembers_74 : decode cX9_remembers 74 = .ok (.getfield 35, 3) := by decide +kernel
theorem dX9_remembers_77 : decode cX9_remembers 77 = .ok (.iload_n 1, 1) := by decide +kernel
theorem dX9_remembers_78 : decode cX9_remembers 78 = .ok (.iaload, 1) := by decide +kernel
theorem dX9_remembers_79 : decode cX9_remembers 79 = .ok (.iastore, 1) := by decide +kernel
theorem dX9_remembers_80 : decode cX9_remembers 80 = .ok (.iinc 1 1, 3) := by decide +kernel
theorem dX9_remembers_83 : decode cX9_remembers 83 = .ok (.goto (-31), 3) := by decide +kernel
theorem dX9_remembers_86 : decode cX9_remembers 86 = .ok (.aload_n 0, 1) := by decide +kernel
theorem dX9_remembers_87 : decode cX9_remembers 87 = .ok (.dup, 1) := by decide +kernel
theorem dX9_remembers_88 : decode cX9_remembers 88 = .ok (.getfield 239, 3) := by decide +kernel
theorem dX9_remembers_91 : decode cX9_remembers 91 = .ok (.iconst 1, 1) := by decide +kernel
theorem dX9_remembers_92 : decode cX9_remembers 92 = .ok (.iadd, 1) := by decide +kernel
theorem dX9_remembers_93 : decode cX9_remembers 93 = .ok (.putfield 239, 3) := by decide +kernel
theorem dX9_remembers_96 : decode cX9_remembers 96 = .ok (.return_, 1) := by decide +kernel
theorem dX9_store_0 : decode cX9_store 0 = .ok (.aload_n 0, 1) := by decide +kernel
theorem dX9_store_1 : decode cX9_store 1 = .ok (.iconst 0, 1) := by decide +kernel
theorem dX9_store_2 : decode cX9_store 2 = .ok (.putfield 75, 3) := by decide +kernel
theorem dX9_store_5 : decode cX9_store 5 = .ok (.aload_n 0, 1) := by decide +kernel
theorem dX9_store_6 : decode cX9_store 6 = .ok (.iload_n 1, 1) := by decide +kernel
theorem dX9_store_7 : decode cX9_store 7 = .ok (.invokevirtual 374, 3) := by decide +kernel
theorem dX9_store_10 : decode cX9_store 10 = .ok (.ifCond .eq 11, 3) := by decide +kernel
theorem dX9_store_13 : decode cX9_store 13 = .ok (.aload_n 0, 1) := by decide +kernel
theorem dX9_store_14 : decode cX9_store 14 = .ok (.iload_n 2, 1) := by decide +kernel
theorem dX9_store_15 : decode cX9_store 15 = .ok (.invokevirtual 271, 3) := by decide +kernel
theorem dX9_store_18 : decode cX9_store 18 = .ok (.ifCond .ne 9, 3) := by decide +kernel
theorem dX9_store_21 : decode cX9_store 21 = .ok (.aload_n 0, 1) := by decide +kernel
theorem dX9_store_22 : decode cX9_store 22 = .ok (.iconst 1, 1) := by decide +kernel
theorem dX9_store_23 : decode cX9_store 23 = .ok (.invokevirtual 210, 3) := by decide +kernel
theorem dX9_store_26 : decode cX9_store 26 = .ok (.ireturn, 1) := by decide +kernel
theorem dX9_store_27 : decode cX9_store 27 = .ok (.aload_n 0, 1) := by decide +kernel
theorem dX9_store_28 : decode cX9_store 28 = .ok (.invokevirtual 427, 3) := by decide +kernel
theorem dX9_store_31 : decode cX9_store 31 = .ok (.aload_n 0, 1) := by decide +kernel
theorem dX9_store_32 : decode cX9_store 32 = .ok (.aload_n 0, 1) := by decide +kernel
theorem dX9_store_33 : decode cX9_store 33 = .ok (.iload_n 1, 1) := by decide +kernel
theorem dX9_store_34 : decode cX9_store 34 = .ok (.iload_n 2, 1) := by decide +kernel
theorem dX9_store_35 : decode cX9_store 35 = .ok (.invokevirtual 410, 3) := by decide +kernel
theorem dX9_store_38 : decode cX9_store 38 = .ok (.invokevirtual 222, 3) := by decide +kernel
theorem dX9_store_41 : decode cX9_store 41 = .ok (.ireturn, 1) := by decide +kernel
theorem dX9_load_0 : decode cX9_load 0 = .ok (.aload_n 0, 1) := by decide +kernel
theorem dX9_load_1 : decode cX9_load 1 = .ok (.iconst 0, 1) := by decide +kernel
theorem dX9_load_2 : decode cX9_load 2 = .ok (.putfield 75, 3) := by decide +kernel
theorem dX9_load_5 : decode cX9_load 5 = .ok (.aload_n 0, 1) := by decide +kernel
theorem dX9_load_6 : decode cX9_load 6 = .ok (.iload_n 1, 1) := by decide +kernel
theorem dX9_load_7 : decode cX9_load 7 = .ok (.invokevirtual 374, 3) := by decide +kernel
theorem dX9_load_10 : decode cX9_load 10 = .ok (.ifCond .ne 9, 3) := by decide +kernel
theorem dX9_load_13 : decode cX9_load 13 = .ok (.aload_n 0, 1) := by decide +kernel
theorem dX9_load_14 : decode cX9_load 14 = .ok (.iconst 1, 1) := by decide +kernel
theorem dX9_load_15 : decode cX9_load 15 = .ok (.invokevirtual 210, 3) := by decide +kernel
theorem dX9_load_18 : decode cX9_load 18 = .ok (.ireturn, 1) := by decide +kernel
theorem dX9_load_19 : decode cX9_load 19 = .ok (.aload_n 0, 1) := by decide +kernel
theorem dX9_load_20 : decode cX9_load 20 = .ok (.iload_n 1, 1) := by decide +kernel
theorem dX9_load_21 : decode cX9_load 21 = .ok (.invokevirtual 325, 3) := by decide +kernel
theorem dX9_load_24 : decode cX9_load 24 = .ok (.ifCond .ne 9, 3) := by decide +kernel
theorem dX9_load_27 : decode cX9_load 27 = .ok (.aload_n 0, 1) := by decide +kernel
theorem dX9_load_28 : decode cX9_load 28 = .ok (.iconst 5, 1) := by decide +kernel
theorem dX9_load_29 : decode cX9_load 29 = .ok (.invokevirtual 210, 3) := by decide +kernel
theorem dX9_load_32 : decode cX9_load 32 = .ok (.ireturn, 1) := by decide +kernel
theorem dX9_load_33 : decode cX9_load 33 = .ok (.aload_n 0, 1) := by decide +kernel
theorem dX9_load_34 : decode cX9_load 34 = .ok (.invokevirtual 427, 3) := by decide +kernel
theorem dX9_load_37 : decode cX9_load 37 = .ok (.aload_n 0, 1) := by decide +kernel
theorem dX9_load_38 : decode cX9_load 38 = .ok (.iload_n 1, 1) := by decide +kernel
theorem dX9_load_39 : decode cX9_load 39 = .ok (.invokevirtual 417, 3) := by decide +kernel
theorem dX9_load_42 : decode cX9_load 42 = .ok (.aload_n 0, 1) := by decide +kernel
theorem dX9_load_43 : decode cX9_load 43 = .ok (.aload_n 0, 1) := by decide +kernel
theorem dX9_load_44 : decode cX9_load 44 = .ok (.iload_n 1, 1) := by decide +kernel
theorem dX9_load_45 : decode cX9_load 45 = .ok (.invokevirtual 325, 3) := by decide +kernel
theorem dX9_load_48 : decode cX9_load 48 = .ok (.invokevirtual 222, 3) := by decide +kernel
theorem dX9_load_51 : decode cX9_load 51 = .ok (.ireturn, 1) := by decide +kernel
theorem dX9_drop_0 : decode cX9_drop 0 = .ok (.aload_n 0, 1) := by decide +kernel
theorem dX9_drop_1 : decode cX9_drop 1 = .ok (.iconst 0, 1) := by decide +kernel
theorem dX9_drop_2 : decode cX9_drop 2 = .ok (.putfield 75, 3) := by decide +kernel
theorem dX9_drop_5 : decode cX9_drop 5 = .ok (.aload_n 0, 1) := by decide +kernel
theorem dX9_drop_6 : decode cX9_drop 6 = .ok (.iload_n 1, 1) := by decide +kernel
theorem dX9_drop_7 : decode cX9_drop 7 = .ok (.invokevirtual 374, 3) := by decide +kernel
theorem dX9_drop_10 : decode cX9_drop 10 = .ok (.ifCond .ne 9, 3) := by decide +kernel
theorem dX9_drop_13 : decode cX9_drop 13 = .ok (.aload_n 0, 1) := by decide +kernel
theorem dX9_drop_14 : decode cX9_drop 14 = .ok (.iconst 1, 1) := by decide +kernel
theorem dX9_drop_15 : decode cX9_drop 15 = .ok (.invokevirtual 210, 3) := by decide +kernel
theorem dX9_drop_18 : decode cX9_drop 18 = .ok (.ireturn, 1) := by decide +kernel
theorem dX9_drop_19 : decode cX9_drop 19 = .ok (.aload_n 0, 1) := by decide +kernel
theorem dX9_drop_20 : decode cX9_drop 20 = .ok (.iload_n 1, 1) := by decide +kernel
theorem dX9_drop_21 : decode cX9_drop 21 = .ok (.invokevirtual 325, 3) := by decide +kernel
theorem dX9_drop_24 : decode cX9_drop 24 = .ok (.ifCond .ne 9, 3) := by decide +kernel
theorem dX9_drop_27 : decode cX9_drop 27 = .ok (.aload_n 0, 1) := by decide +kernel
theorem dX9_drop_28 : decode cX9_drop 28 = .ok (.iconst 5, 1) := by decide +kernel
theorem dX9_drop_29 : decode cX9_drop 29 = .ok (.invokevirtual 210, 3) := by decide +kernel
theorem dX9_drop_32 : decode cX9_drop 32 = .ok (.ireturn, 1) := by decide +kernel
theorem dX9_drop_33 : decode cX9_drop 33 = .ok (.aload_n 0, 1) := by decide +kernel
theorem dX9_drop_34 : decode cX9_drop 34 = .ok (.invokevirtual 427, 3) := by decide +kernel
theorem dX9_drop_37 : decode cX9_drop 37 = .ok (.aload_n 0, 1) := by decide +kernel
theorem dX9_drop_38 : decode cX9_drop 38 = .ok (.iload_n 1, 1) := by decide +kernel
theorem dX9_drop_39 : decode cX9_drop 39 = .ok (.invokevirtual 325, 3) := by decide +kernel
theorem dX9_drop_42 : decode cX9_drop 42 = .ok (.istore_n 2, 1) := by decide +kernel
theorem dX9_drop_43 : decode cX9_drop 43 = .ok (.aload_n 0, 1) := by decide +kernel
theorem dX9_drop_44 : decode cX9_drop 44 = .ok (.iload_n 1, 1) := by decide +kernel
theorem dX9_drop_45 : decode cX9_drop 45 = .ok (.invokevirtual 368, 3) := by decide +kernel
theorem dX9_drop_48 : decode cX9_drop 48 = .ok (.aload_n 0, 1) := by decide +kernel
theorem dX9_drop_49 : decode cX9_drop 49 = .ok (.iload_n 2, 1) := by decide +kernel
theorem dX9_drop_50 : decode cX9_drop 50 = .ok (.invokevirtual 222, 3) := by decide +kernel
theorem dX9_drop_53 : decode cX9_drop 53 = .ok (.ireturn, 1) := by decide +kernel
theorem dX9_denied_0 : decode cX9_denied 0 = .ok (.aload_n 0, 1) := by decide +kernel
theorem dX9_denied_1 : decode cX9_denied 1 = .ok (.iload_n 1, 1) := by decide +kernel
theorem dX9_denied_2 : decode cX9_denied 2 = .ok (.invokevirtual 210, 3) := by decide +kernel
theorem dX9_denied_5 : decode cX9_denied 5 = .ok (.pop, 1) := by decide +kernel
theorem dX9_denied_6 : decode cX9_denied 6 = .ok (.iconst 0, 1) := by decide +kernel
theorem dX9_denied_7 : decode cX9_denied 7 = .ok (.ireturn, 1) := by decide +kernel
theorem dX9_turnsHeld_0 : decode cX9_turnsHeld 0 = .ok (.aload_n 0, 1) := by decide +kernel
theorem dX9_turnsHeld_1 : decode cX9_turnsHeld 1 = .ok (.invokevirtual 427, 3) := by decide +kernel
theorem dX9_turnsHeld_4 : decode cX9_turnsHeld 4 = .ok (.aload_n 0, 1) := by decide +kernel
theorem dX9_turnsHeld_5 : decode cX9_turnsHeld 5 = .ok (.getfield 35, 3) := by decide +kernel
theorem dX9_turnsHeld_8 : decode cX9_turnsHeld 8 = .ok (.sipush 1204, 3) := by decide +kernel
theorem dX9_turnsHeld_11 : decode cX9_turnsHeld 11 = .ok (.iload_n 1, 1) := by decide +kernel
theorem dX9_turnsHeld_12 : decode cX9_turnsHeld 12 = .ok (.iadd, 1) := by decide +kernel
theorem dX9_turnsHeld_13 : decode cX9_turnsHeld 13 = .ok (.iload_n 2, 1) := by decide +kernel
theorem dX9_turnsHeld_14 : decode cX9_turnsHeld 14 = .ok (.iastore, 1) := by decide +kernel
theorem dX9_turnsHeld_15 : decode cX9_turnsHeld 15 = .ok (.aload_n 0, 1) := by decide +kernel
theorem dX9_turnsHeld_16 : decode cX9_turnsHeld 16 = .ok (.iconst 0, 1) := by decide +kernel
theorem dX9_turnsHeld_17 : decode cX9_turnsHeld 17 = .ok (.invokevirtual 222, 3) := by decide +kernel
theorem dX9_turnsHeld_20 : decode cX9_turnsHeld 20 = .ok (.pop, 1) := by decide +kernel
theorem dX9_turnsHeld_21 : decode cX9_turnsHeld 21 = .ok (.iconst 1, 1) := by decide +kernel
theorem dX9_turnsHeld_22 : decode cX9_turnsHeld 22 = .ok (.ireturn, 1) := by decide +kernel
theorem dX9_hold_0 : decode cX9_hold 0 = .ok (.aload_n 0, 1) := by decide +kernel
theorem dX9_hold_1 : decode cX9_hold 1 = .ok (.iconst 0, 1) := by decide +kernel
theorem dX9_hold_2 : decode cX9_hold 2 = .ok (.putfield 75, 3) := by decide +kernel
theorem dX9_hold_5 : decode cX9_hold 5 = .ok (.aload_n 0, 1) := by decide +kernel
theorem dX9_hold_6 : decode cX9_hold 6 = .ok (.iload_n 1, 1) := by decide +kernel
theorem dX9_hold_7 : decode cX9_hold 7 = .ok (.invokevirtual 374, 3) := by decide +kernel
theorem dX9_hold_10 : decode cX9_hold 10 = .ok (.ifCond .ne 9, 3) := by decide +kernel
theorem dX9_hold_13 : decode cX9_hold 13 = .ok (.aload_n 0, 1) := by decide +kernel
theorem dX9_hold_14 : decode cX9_hold 14 = .ok (.iconst 1, 1) := by decide +kernel
theorem dX9_hold_15 : decode cX9_hold 15 = .ok (.invokevirtual 430, 3) := by decide +kernel
theorem dX9_hold_18 : decode cX9_hold 18 = .ok (.ireturn, 1) := by decide +kernel
theorem dX9_hold_19 : decode cX9_hold 19 = .ok (.aload_n 0, 1) := by decide +kernel
theorem dX9_hold_20 : decode cX9_hold 20 = .ok (.iload_n 1, 1) := by decide +kernel
theorem dX9_hold_21 : decode cX9_hold 21 = .ok (.invokevirtual 325, 3) := by decide +kernel
theorem dX9_hold_24 : decode cX9_hold 24 = .ok (.iconst 2, 1) := by decide +kernel
theorem dX9_hold_25 : decode cX9_hold 25 = .ok (.if_icmp .ne 11, 3) := by decide +kernel
theorem dX9_hold_28 : decode cX9_hold 28 = .ok (.aload_n 0, 1) := by decide +kernel
theorem dX9_hold_29 : decode cX9_hold 29 = .ok (.iload_n 1, 1) := by decide +kernel
theorem dX9_hold_30 : decode cX9_hold 30 = .ok (.invokevirtual 334, 3) := by decide +kernel
theorem dX9_hold_33 : decode cX9_hold 33 = .ok (.ifCond .eq 11, 3) := by decide +kernel
theorem dX9_hold_36 : decode cX9_hold 36 = .ok (.aload_n 0, 1) := by decide +kernel
theorem dX9_hold_37 : decode cX9_hold 37 = .ok (.iconst 5, 1) := by decide +kernel
theorem dX9_hold_38 : decode cX9_hold 38 = .ok (.invokevirtual 430, 3) := by decide +kernel
theorem dX9_hold_41 : decode cX9_hold 41 = .ok (.goto 9, 3) := by decide +kernel
theorem dX9_hold_44 : decode cX9_hold 44 = .ok (.aload_n 0, 1) := by decide +kernel
theorem dX9_hold_45 : decode cX9_hold 45 = .ok (.iload_n 1, 1) := by decide +kernel
theorem dX9_hold_46 : decode cX9_hold 46 = .ok (.iconst 1, 1) := by decide +kernel
theorem dX9_hold_47 : decode cX9_hold 47 = .ok (.invokevirtual 433, 3) := by decide +kernel
theorem dX9_hold_50 : decode cX9_hold 50 = .ok (.ireturn, 1) := by decide +kernel
theorem dX9_release_0 : decode cX9_release 0 = .ok (.aload_n 0, 1) := by decide +kernel
theorem dX9_release_1 : decode cX9_release 1 = .ok (.iconst 0, 1) := by decide +kernel
theorem dX9_release_2 : decode cX9_release 2 = .ok (.putfield 75, 3) := by decide +kernel
theorem dX9_release_5 : decode cX9_release 5 = .ok (.aload_n 0, 1) := by decide +kernel
theorem dX9_release_6 : decode cX9_release 6 = .ok (.iload_n 1, 1) := by decide +kernel
theorem dX9_release_7 : decode cX9_release 7 = .ok (.invokevirtual 374, 3) := by decide +kernel
theorem dX9_release_10 : decode cX9_release 10 = .ok (.ifCond .ne 9, 3) := by decide +kernel
theorem dX9_release_13 : decode cX9_release 13 = .ok (.aload_n 0, 1) := by decide +kernel
theorem dX9_release_14 : decode cX9_release 14 = .ok (.iconst 1, 1) := by decide +kernel
theorem dX9_release_15 : decode cX9_release 15 = .ok (.invokevirtual 430, 3) := by decide +kernel
theorem dX9_release_18 : decode cX9_release 18 = .ok (.ireturn, 1) := by decide +kernel
theorem dX9_release_19 : decode cX9_release 19 = .ok (.aload_n 0, 1) := by decide +kernel
theorem dX9_release_20 : decode cX9_release 20 = .ok (.iload_n 1, 1) := by decide +kernel
theorem dX9_release_21 : decode cX9_release 21 = .ok (.invokevirtual 334, 3) := by decide +kernel
theorem dX9_release_24 : decode cX9_release 24 = .ok (.ifCond .eq 12, 3) := by decide +kernel
theorem dX9_release_27 : decode cX9_release 27 = .ok (.aload_n 0, 1) := by decide +kernel
theorem dX9_release_28 : decode cX9_release 28 = .ok (.iload_n 1, 1) := by decide +kernel
theorem dX9_release_29 : decode cX9_release 29 = .ok (.iconst 0, 1) := by decide +kernel
theorem dX9_release_30 : decode cX9_release 30 = .ok (.invokevirtual 433, 3) := by decide +kernel
theorem dX9_release_33 : decode cX9_release 33 = .ok (.goto 8, 3) := by decide +kernel
theorem dX9_release_36 : decode cX9_release 36 = .ok (.aload_n 0, 1) := by decide +kernel
theorem dX9_release_37 : decode cX9_release 37 = .ok (.iconst 5, 1) := by decide +kernel
theorem dX9_release_38 : decode cX9_release 38 = .ok (.invokevirtual 430, 3) := by decide +kernel
theorem dX9_release_41 : decode cX9_release 41 = .ok (.ireturn, 1) := by decide +kernel
theorem dX9_poke_0 : decode cX9_poke 0 = .ok (.aload_n 0, 1) := by decide +kernel
theorem dX9_poke_1 : decode cX9_poke 1 = .ok (.iconst 0, 1) := by decide +kernel
theorem dX9_poke_2 : decode cX9_poke 2 = .ok (.putfield 75, 3) := by decide +kernel
theorem dX9_poke_5 : decode cX9_poke 5 = .ok (.aload_n 0, 1) := by decide +kernel
theorem dX9_poke_6 : decode cX9_poke 6 = .ok (.iload_n 1, 1) := by decide +kernel
theorem dX9_poke_7 : decode cX9_poke 7 = .ok (.invokevirtual 271, 3) := by decide +kernel
theorem dX9_poke_10 : decode cX9_poke 10 = .ok (.ifCond .eq 13, 3) := by decide +kernel
theorem dX9_poke_13 : decode cX9_poke 13 = .ok (.iload_n 2, 1) := by decide +kernel
theorem dX9_poke_14 : decode cX9_poke 14 = .ok (.iconst 0, 1) := by decide +kernel
theorem dX9_poke_15 : decode cX9_poke 15 = .ok (.bipush 15, 2) := by decide +kernel
theorem dX9_poke_17 : decode cX9_poke 17 = .ok (.invokestatic 100, 3) := by decide +kernel
theorem dX9_poke_20 : decode cX9_poke 20 = .ok (.ifCond .ne 9, 3) := by decide +kernel
theorem dX9_poke_23 : decode cX9_poke 23 = .ok (.aload_n 0, 1) := by decide +kernel
theorem dX9_poke_24 : decode cX9_poke 24 = .ok (.iconst 1, 1) := by decide +kernel
theorem dX9_poke_25 : decode cX9_poke 25 = .ok (.invokevirtual 210, 3) := by decide +kernel
theorem dX9_poke_28 : decode cX9_poke 28 = .ok (.ireturn, 1) := by decide +kernel
theorem dX9_poke_29 : decode cX9_poke 29 = .ok (.iload_n 3, 1) := by decide +kernel
theorem dX9_poke_30 : decode cX9_poke 30 = .ok (.iconst 0, 1) := by decide +kernel
theorem dX9_poke_31 : decode cX9_poke 31 = .ok (.bipush 99, 2) := by decide +kernel
theorem dX9_poke_33 : decode cX9_poke 33 = .ok (.invokestatic 100, 3) := by decide +kernel
theorem dX9_poke_36 : decode cX9_poke 36 = .ok (.ifCond .ne 9, 3) := by decide +kernel
theorem dX9_poke_39 : decode cX9_poke 39 = .ok (.aload_n 0, 1) := by decide +kernel
theorem dX9_poke_40 : decode cX9_poke 40 = .ok (.iconst 2, 1) := by decide +kernel
theorem dX9_poke_41 : decode cX9_poke 41 = .ok (.invokevirtual 210, 3) := by decide +kernel
theorem dX9_poke_44 : decode cX9_poke 44 = .ok (.ireturn, 1) := by decide +kernel
theorem dX9_poke_45 : decode cX9_poke 45 = .ok (.aload_n 0, 1) := by decide +kernel
theorem dX9_poke_46 : decode cX9_poke 46 = .ok (.invokevirtual 427, 3) := by decide +kernel
theorem dX9_poke_49 : decode cX9_poke 49 = .ok (.aload_n 0, 1) := by decide +kernel
theorem dX9_poke_50 : decode cX9_poke 50 = .ok (.getfield 35, 3) := by decide +kernel
theorem dX9_poke_53 : decode cX9_poke 53 = .ok (.iload_n 1, 1) := by decide +kernel
theorem dX9_poke_54 : decode cX9_poke 54 = .ok (.invokestatic 274, 3) := by decide +kernel
theorem dX9_poke_57 : decode cX9_poke 57 = .ok (.iload_n 2, 1) := by decide +kernel
theorem dX9_poke_58 : decode cX9_poke 58 = .ok (.iadd, 1) := by decide +kernel
theorem dX9_poke_59 : decode cX9_poke 59 = .ok (.iaload, 1) := by decide +kernel
theorem dX9_poke_60 : decode cX9_poke 60 = .ok (.istore 4, 2) := by decide +kernel
theorem dX9_poke_62 : decode cX9_poke 62 = .ok (.aload_n 0, 1) := by decide +kernel
theorem dX9_poke_63 : decode cX9_poke 63 = .ok (.getfield 35, 3) := by decide +kernel
theorem dX9_poke_66 : decode cX9_poke 66 = .ok (.iload_n 1, 1) := by decide +kernel
theorem dX9_poke_67 : decode cX9_poke 67 = .ok (.invokestatic 274, 3) := by decide +kernel
theorem dX9_poke_70 : decode cX9_poke 70 = .ok (.iload_n 2, 1) := by decide +kernel
theorem dX9_poke_71 : decode cX9_poke 71 = .ok (.iadd, 1) := by decide +kernel
theorem dX9_poke_72 : decode cX9_poke 72 = .ok (.iload_n 3, 1) := by decide +kernel
theorem dX9_poke_73 : decode cX9_poke 73 = .ok (.iastore, 1) := by decide +kernel
theorem dX9_poke_74 : decode cX9_poke 74 = .ok (.aload_n 0, 1) := by decide +kernel
theorem dX9_poke_75 : decode cX9_poke 75 = .ok (.iload 4, 2) := by decide +kernel
theorem dX9_poke_77 : decode cX9_poke 77 = .ok (.invokevirtual 222, 3) := by decide +kernel
theorem dX9_poke_80 : decode cX9_poke 80 = .ok (.ireturn, 1) := by decide +kernel
theorem dX9_writeBack_0 : decode cX9_writeBack 0 = .ok (.aload_n 0, 1) := by decide +kernel
theorem dX9_writeBack_1 : decode cX9_writeBack 1 = .ok (.iconst 0, 1) := by decide +kernel
theorem dX9_writeBack_2 : decode cX9_writeBack 2 = .ok (.putfield 75, 3) := by decide +kernel
theorem dX9_writeBack_5 : decode cX9_writeBack 5 = .ok (.aload_n 0, 1) := by decide +kernel
theorem dX9_writeBack_6 : decode cX9_writeBack 6 = .ok (.getfield 225, 3) := by decide +kernel
theorem dX9_writeBack_9 : decode cX9_writeBack 9 = .ok (.ifCond .ne 9, 3) := by decide +kernel
theorem dX9_writeBack_12 : decode cX9_writeBack 12 = .ok (.aload_n 0, 1) := by decide +kernel
theorem dX9_writeBack_13 : decode cX9_writeBack 13 = .ok (.iconst 1, 1) := by decide +kernel
theorem dX9_writeBack_14 : decode cX9_writeBack 14 = .ok (.invokevirtual 210, 3) := by decide +kernel
theorem dX9_writeBack_17 : decode cX9_writeBack 17 = .ok (.ireturn, 1) := by decide +kernel
theorem dX9_writeBack_18 : decode cX9_writeBack 18 = .ok (.iload_n 1, 1) := by decide +kernel
theorem dX9_writeBack_19 : decode cX9_writeBack 19 = .ok (.iconst 1, 1) := by decide +kernel
theorem dX9_writeBack_20 : decode cX9_writeBack 20 = .ok (.bipush 30, 2) := by decide +kernel
theorem dX9_writeBack_22 : decode cX9_writeBack 22 = .ok (.invokestatic 100, 3) := by decide +kernel
theorem dX9_writeBack_25 : decode cX9_writeBack 25 = .ok (.ifCond .ne 9, 3) := by decide +kernel
theorem dX9_writeBack_28 : decode cX9_writeBack 28 = .ok (.aload_n 0, 1) := by decide +kernel
theorem dX9_writeBack_29 : decode cX9_writeBack 29 = .ok (.iconst 2, 1) := by decide +kernel
theorem dX9_writeBack_30 : decode cX9_writeBack 30 = .ok (.invokevirtual 210, 3) := by decide +kernel
theorem dX9_writeBack_33 : decode cX9_writeBack 33 = .ok (.ireturn, 1) := by decide +kernel
theorem dX9_writeBack_34 : decode cX9_writeBack 34 = .ok (.aload_n 0, 1) := by decide +kernel
theorem dX9_writeBack_35 : decode cX9_writeBack 35 = .ok (.invokevirtual 427, 3) := by decide +kernel
theorem dX9_writeBack_38 : decode cX9_writeBack 38 = .ok (.iconst 0, 1) := by decide +kernel
theorem dX9_writeBack_39 : decode cX9_writeBack 39 = .ok (.istore_n 2, 1) := by decide +kernel
theorem dX9_writeBack_40 : decode cX9_writeBack 40 = .ok (.iload_n 2, 1) := by decide +kernel
theorem dX9_writeBack_41 : decode cX9_writeBack 41 = .ok (.iload_n 1, 1) := by decide +kernel
theorem dX9_writeBack_42 : decode cX9_writeBack 42 = .ok (.if_icmp .ge 22, 3) := by decide +kernel
theorem dX9_writeBack_45 : decode cX9_writeBack 45 = .ok (.aload_n 0, 1) := by decide +kernel
theorem dX9_writeBack_46 : decode cX9_writeBack 46 = .ok (.invokevirtual 337, 3) := by decide +kernel
theorem dX9_writeBack_49 : decode cX9_writeBack 49 = .ok (.iconst (-1), 1) := by decide +kernel
theorem dX9_writeBack_50 : decode cX9_writeBack 50 = .ok (.if_icmp .eq 14, 3) := by decide +kernel
theorem dX9_writeBack_53 : decode cX9_writeBack 53 = .ok (.aload_n 0, 1) := by decide +kernel
theorem dX9_writeBack_54 : decode cX9_writeBack 54 = .ok (.invokevirtual 362, 3) := by decide +kernel
theorem dX9_writeBack_57 : decode cX9_writeBack 57 = .ok (.pop, 1) := by decide +kernel
theorem dX9_writeBack_58 : decode cX9_writeBack 58 = .ok (.iinc 2 1, 3) := by decide +kernel
theorem dX9_writeBack_61 : decode cX9_writeBack 61 = .ok (.goto (-21), 3) := by decide +kernel
theorem dX9_writeBack_64 : decode cX9_writeBack 64 = .ok (.aload_n 0, 1) := by decide +kernel
theorem dX9_writeBack_65 : decode cX9_writeBack 65 = .ok (.iload_n 2, 1) := by decide +kernel
theorem dX9_writeBack_66 : decode cX9_writeBack 66 = .ok (.invokevirtual 222, 3) := by decide +kernel
theorem dX9_writeBack_69 : decode cX9_writeBack 69 = .ok (.ireturn, 1) := by decide +kernel
theorem dX9_limit_0 : decode cX9_limit 0 = .ok (.aload_n 0, 1) := by decide +kernel
theorem dX9_limit_1 : decode cX9_limit 1 = .ok (.iconst 0, 1) := by decide +kernel
theorem dX9_limit_2 : decode cX9_limit 2 = .ok (.putfield 75, 3) := by decide +kernel
theorem dX9_limit_5 : decode cX9_limit 5 = .ok (.aload_n 0, 1) := by decide +kernel
theorem dX9_limit_6 : decode cX9_limit 6 = .ok (.getfield 225, 3) := by decide +kernel
theorem dX9_limit_9 : decode cX9_limit 9 = .ok (.ifCond .ne 9, 3) := by decide +kernel
theorem dX9_limit_12 : decode cX9_limit 12 = .ok (.aload_n 0, 1) := by decide +kernel
theorem dX9_limit_13 : decode cX9_limit 13 = .ok (.iconst 1, 1) := by decide +kernel
theorem dX9_limit_14 : decode cX9_limit 14 = .ok (.invokevirtual 210, 3) := by decide +kernel
theorem dX9_limit_17 : decode cX9_limit 17 = .ok (.ireturn, 1) := by decide +kernel
theorem dX9_limit_18 : decode cX9_limit 18 = .ok (.iload_n 1, 1) := by decide +kernel
theorem dX9_limit_19 : decode cX9_limit 19 = .ok (.iconst 1, 1) := by decide +kernel
theorem dX9_limit_20 : decode cX9_limit 20 = .ok (.bipush 24, 2) := by decide +kernel
theorem dX9_limit_22 : decode cX9_limit 22 = .ok (.invokestatic 100, 3) := by decide +kernel
theorem dX9_limit_25 : decode cX9_limit 25 = .ok (.ifCond .ne 9, 3) := by decide +kernel
theorem dX9_limit_28 : decode cX9_limit 28 = .ok (.aload_n 0, 1) := by decide +kernel
theorem dX9_limit_29 : decode cX9_limit 29 = .ok (.iconst 2, 1) := by decide +kernel
theorem dX9_limit_30 : decode cX9_limit 30 = .ok (.invokevirtual 210, 3) := by decide +kernel
theorem dX9_limit_33 : decode cX9_limit 33 = .ok (.ireturn, 1) := by decide +kernel
theorem dX9_limit_34 : decode cX9_limit 34 = .ok (.aload_n 0, 1) := by decide +kernel
theorem dX9_limit_35 : decode cX9_limit 35 = .ok (.invokevirtual 427, 3) := by decide +kernel
theorem dX9_limit_38 : decode cX9_limit 38 = .ok (.aload_n 0, 1) := by decide +kernel
theorem dX9_limit_39 : decode cX9_limit 39 = .ok (.getfield 35, 3) := by decide +kernel
theorem dX9_limit_42 : decode cX9_limit 42 = .ok (.iconst 0, 1) := by decide +kernel
theorem dX9_limit_43 : decode cX9_limit 43 = .ok (.iload_n 1, 1) := by decide +kernel
theorem dX9_limit_44 : decode cX9_limit 44 = .ok (.iastore, 1) := by decide +kernel
theorem dX9_limit_45 : decode cX9_limit 45 = .ok (.aload_n 0, 1) := by decide +kernel
theorem dX9_limit_46 : decode cX9_limit 46 = .ok (.iload_n 1, 1) := by decide +kernel
theorem dX9_limit_47 : decode cX9_limit 47 = .ok (.invokevirtual 404, 3) := by decide +kernel
theorem dX9_limit_50 : decode cX9_limit 50 = .ok (.istore_n 2, 1) := by decide +kernel
theorem dX9_limit_51 : decode cX9_limit 51 = .ok (.aload_n 0, 1) := by decide +kernel
theorem dX9_limit_52 : decode cX9_limit 52 = .ok (.getfield 35, 3) := by decide +kernel
theorem dX9_limit_55 : decode cX9_limit 55 = .ok (.iconst 2, 1) := by decide +kernel
theorem dX9_limit_56 : decode cX9_limit 56 = .ok (.dup2, 1) := by decide +kernel
theorem dX9_limit_57 : decode cX9_limit 57 = .ok (.iaload, 1) := by decide +kernel
theorem dX9_limit_58 : decode cX9_limit 58 = .ok (.iload_n 2, 1) := by decide +kernel
theorem dX9_limit_59 : decode cX9_limit 59 = .ok (.iadd, 1) := by decide +kernel
theorem dX9_limit_60 : decode cX9_limit 60 = .ok (.iastore, 1) := by decide +kernel
theorem dX9_limit_61 : decode cX9_limit 61 = .ok (.aload_n 0, 1) := by decide +kernel
theorem dX9_limit_62 : decode cX9_limit 62 = .ok (.iload_n 2, 1) := by decide +kernel
theorem dX9_limit_63 : decode cX9_limit 63 = .ok (.invokevirtual 222, 3) := by decide +kernel
theorem dX9_limit_66 : decode cX9_limit 66 = .ok (.ireturn, 1) := by decide +kernel
theorem dX9_compact_0 : decode cX9_compact 0 = .ok (.aload_n 0, 1) := by decide +kernel
theorem dX9_compact_1 : decode cX9_compact 1 = .ok (.iconst 0, 1) := by decide +kernel
theorem dX9_compact_2 : decode cX9_compact 2 = .ok (.putfield 75, 3) := by decide +kernel
theorem dX9_compact_5 : decode cX9_compact 5 = .ok (.aload_n 0, 1) := by decide +kernel
theorem dX9_compact_6 : decode cX9_compact 6 = .ok (.getfield 225, 3) := by decide +kernel
theorem dX9_compact_9 : decode cX9_compact 9 = .ok (.ifCond .ne 9, 3) := by decide +kernel
theorem dX9_compact_12 : decode cX9_compact 12 = .ok (.aload_n 0, 1) := by decide +kernel
theorem dX9_compact_13 : decode cX9_compact 13 = .ok (.iconst 1, 1) := by decide +kernel
theorem dX9_compact_14 : decode cX9_compact 14 = .ok (.invokevirtual 210, 3) := by decide +kernel
theorem dX9_compact_17 : decode cX9_compact 17 = .ok (.ireturn, 1) := by decide +kernel
theorem dX9_compact_18 : decode cX9_compact 18 = .ok (.aload_n 0, 1) := by decide +kernel
theorem dX9_compact_19 : decode cX9_compact 19 = .ok (.invokevirtual 427, 3) := by decide +kernel
theorem dX9_compact_22 : decode cX9_compact 22 = .ok (.aload_n 0, 1) := by decide +kernel
theorem dX9_compact_23 : decode cX9_compact 23 = .ok (.aload_n 0, 1) := by decide +kernel
theorem dX9_compact_24 : decode cX9_compact 24 = .ok (.invokevirtual 398, 3) := by decide +kernel
theorem dX9_compact_27 : decode cX9_compact 27 = .ok (.invokevirtual 222, 3) := by decide +kernel
theorem dX9_compact_30 : decode cX9_compact 30 = .ok (.ireturn, 1) := by decide +kernel
theorem dX9_run_0 : decode cX9_run 0 = .ok (.aload_n 0, 1) := by decide +kernel
theorem dX9_run_1 : decode cX9_run 1 = .ok (.iconst 0, 1) := by decide +kernel
theorem dX9_run_2 : decode cX9_run 2 = .ok (.putfield 75, 3) := by decide +kernel
theorem dX9_run_5 : decode cX9_run 5 = .ok (.aload_n 0, 1) := by decide +kernel
theorem dX9_run_6 : decode cX9_run 6 = .ok (.getfield 225, 3) := by decide +kernel
theorem dX9_run_9 : decode cX9_run 9 = .ok (.ifCond .eq 15, 3) := by decide +kernel
theorem dX9_run_12 : decode cX9_run 12 = .ok (.iload_n 1, 1) := by decide +kernel
theorem dX9_run_13 : decode cX9_run 13 = .ok (.ifCond .lt 11, 3) := by decide +kernel
theorem dX9_run_16 : decode cX9_run 16 = .ok (.iload_n 1, 1) := by decide +kernel
theorem dX9_run_17 : decode cX9_run 17 = .ok (.aload_n 0, 1) := by decide +kernel
theorem dX9_run_18 : decode cX9_run 18 = .ok (.getfield 233, 3) := by decide +kernel
theorem dX9_run_21 : decode cX9_run 21 = .ok (.if_icmp .lt 9, 3) := by decide +kernel
theorem dX9_run_24 : decode cX9_run 24 = .ok (.aload_n 0, 1) := by decide +kernel
theorem dX9_run_25 : decode cX9_run 25 = .ok (.iconst 1, 1) := by decide +kernel
theorem dX9_run_26 : decode cX9_run 26 = .ok (.invokevirtual 210, 3) := by decide +kernel
theorem dX9_run_29 : decode cX9_run 29 = .ok (.ireturn, 1) := by decide +kernel
theorem dX9_run_30 : decode cX9_run 30 = .ok (.iload_n 2, 1) := by decide +kernel
theorem dX9_run_31 : decode cX9_run 31 = .ok (.iconst 1, 1) := by decide +kernel
theorem dX9_run_32 : decode cX9_run 32 = .ok (.bipush 24, 2) := by decide +kernel
theorem dX9_run_34 : decode cX9_run 34 = .ok (.invokestatic 100, 3) := by decide +kernel
theorem dX9_run_37 : decode cX9_run 37 = .ok (.ifCond .ne 9, 3) := by decide +kernel
theorem dX9_run_40 : decode cX9_run 40 = .ok (.aload_n 0, 1) := by decide +kernel
theorem dX9_run_41 : decode cX9_run 41 = .ok (.iconst 2, 1) := by decide +kernel
theorem dX9_run_42 : decode cX9_run 42 = .ok (.invokevirtual 210, 3) := by decide +kernel
theorem dX9_run_45 : decode cX9_run 45 = .ok (.ireturn, 1) := by decide +kernel
theorem dX9_run_46 : decode cX9_run 46 = .ok (.aload_n 0, 1) := by decide +kernel
theorem dX9_run_47 : decode cX9_run 47 = .ok (.invokevirtual 427, 3) := by decide +kernel
theorem dX9_run_50 : decode cX9_run 50 = .ok (.iconst 0, 1) := by decide +kernel
theorem dX9_run_51 : decode cX9_run 51 = .ok (.istore_n 3, 1) := by decide +kernel
theorem dX9_run_52 : decode cX9_run 52 = .ok (.iload_n 3, 1) := by decide +kernel
theorem dX9_run_53 : decode cX9_run 53 = .ok (.iload_n 2, 1) := by decide +kernel
theorem dX9_run_54 : decode cX9_run 54 = .ok (.if_icmp .ge 26, 3) := by decide +kernel
theorem dX9_run_57 : decode cX9_run 57 = .ok (.iload_n 1, 1) := by decide +kernel
theorem dX9_run_58 : decode cX9_run 58 = .ok (.iload_n 3, 1) := by decide +kernel
theorem dX9_run_59 : decode cX9_run 59 = .ok (.iadd, 1) := by decide +kernel
theorem dX9_run_60 : decode cX9_run 60 = .ok (.aload_n 0, 1) := by decide +kernel
theorem dX9_run_61 : decode cX9_run 61 = .ok (.getfield 233, 3) := by decide +kernel
theorem dX9_run_64 : decode cX9_run 64 = .ok (.if_icmp .ge 16, 3) := by decide +kernel
theorem dX9_run_67 : decode cX9_run 67 = .ok (.aload_n 0, 1) := by decide +kernel
theorem dX9_run_68 : decode cX9_run 68 = .ok (.iload_n 1, 1) := by decide +kernel
theorem dX9_run_69 : decode cX9_run 69 = .ok (.iload_n 3, 1) := by decide +kernel
theorem dX9_run_70 : decode cX9_run 70 = .ok (.iadd, 1) := by decide +kernel
theorem dX9_run_71 : decode cX9_run 71 = .ok (.invokevirtual 420, 3) := by decide +kernel
theorem dX9_run_74 : decode cX9_run 74 = .ok (.iinc 3 1, 3) := by decide +kernel
theorem dX9_run_77 : decode cX9_run 77 = .ok (.goto (-25), 3) := by decide +kernel
theorem dX9_run_80 : decode cX9_run 80 = .ok (.aload_n 0, 1) := by decide +kernel
theorem dX9_run_81 : decode cX9_run 81 = .ok (.iload_n 3, 1) := by decide +kernel
theorem dX9_run_82 : decode cX9_run 82 = .ok (.invokevirtual 222, 3) := by decide +kernel
theorem dX9_run_85 : decode cX9_run 85 = .ok (.ireturn, 1) := by decide +kernel
theorem dX9_undo_0 : decode cX9_undo 0 = .ok (.aload_n 0, 1) := by decide +kernel
theorem dX9_undo_1 : decode cX9_undo 1 = .ok (.iconst 0, 1) := by decide +kernel
theorem dX9_undo_2 : decode cX9_undo 2 = .ok (.putfield 75, 3) := by decide +kernel
theorem dX9_undo_5 : decode cX9_undo 5 = .ok (.aload_n 0, 1) := by decide +kernel
theorem dX9_undo_6 : decode cX9_undo 6 = .ok (.getfield 225, 3) := by decide +kernel
theorem dX9_undo_9 : decode cX9_undo 9 = .ok (.ifCond .eq 10, 3) := by decide +kernel
theorem dX9_undo_12 : decode cX9_undo 12 = .ok (.aload_n 0, 1) := by decide +kernel
theorem dX9_undo_13 : decode cX9_undo 13 = .ok (.getfield 239, 3) := by decide +kernel
theorem dX9_undo_16 : decode cX9_undo 16 = .ok (.ifCond .ne 11, 3) := by decide +kernel
theorem dX9_undo_19 : decode cX9_undo 19 = .ok (.aload_n 0, 1) := by decide +kernel
theorem dX9_undo_20 : decode cX9_undo 20 = .ok (.iconst 1, 1) := by decide +kernel
theorem dX9_undo_21 : decode cX9_undo 21 = .ok (.invokevirtual 210, 3) := by decide +kernel
theorem dX9_undo_24 : decode cX9_undo 24 = .ok (.pop, 1) := by decide +kernel
theorem dX9_undo_25 : decode cX9_undo 25 = .ok (.iconst 0, 1) := by decide +kernel
theorem dX9_undo_26 : decode cX9_undo 26 = .ok (.ireturn, 1) := by decide +kernel
theorem dX9_undo_27 : decode cX9_undo 27 = .ok (.aload_n 0, 1) := by decide +kernel
theorem dX9_undo_28 : decode cX9_undo 28 = .ok (.dup, 1) := by decide +kernel
theorem dX9_undo_29 : decode cX9_undo 29 = .ok (.getfield 239, 3) := by decide +kernel
theorem dX9_undo_32 : decode cX9_undo 32 = .ok (.iconst 1, 1) := by decide +kernel
theorem dX9_undo_33 : decode cX9_undo 33 = .ok (.isub, 1) := by decide +kernel
theorem dX9_undo_34 : decode cX9_undo 34 = .ok (.putfield 239, 3) := by decide +kernel
theorem dX9_undo_37 : decode cX9_undo 37 = .ok (.iconst 0, 1) := by decide +kernel
theorem dX9_undo_38 : decode cX9_undo 38 = .ok (.istore_n 1, 1) := by decide +kernel
theorem dX9_undo_39 : decode cX9_undo 39 = .ok (.iload_n 1, 1) := by decide +kernel
theorem dX9_undo_40 : decode cX9_undo 40 = .ok (.sipush 1234, 3) := by decide +kernel
theorem dX9_undo_43 : decode cX9_undo 43 = .ok (.if_icmp .ge 30, 3) := by decide +kernel
theorem dX9_undo_46 : decode cX9_undo 46 = .ok (.aload_n 0, 1) := by decide +kernel
theorem dX9_undo_47 : decode cX9_undo 47 = .ok (.getfield 35, 3) := by decide +kernel
theorem dX9_undo_50 : decode cX9_undo 50 = .ok (.iload_n 1, 1) := by decide +kernel
theorem dX9_undo_51 : decode cX9_undo 51 = .ok (.aload_n 0, 1) := by decide +kernel
theorem dX9_undo_52 : decode cX9_undo 52 = .ok (.getfield 41, 3) := by decide +kernel
theorem dX9_undo_55 : decode cX9_undo 55 = .ok (.sipush 1234, 3) := by decide +kernel
theorem dX9_undo_58 : decode cX9_undo 58 = .ok (.aload_n 0, 1) := by decide +kernel
theorem dX9_undo_59 : decode cX9_undo 59 = .ok (.getfield 239, 3) := by decide +kernel
theorem dX9_undo_62 : decode cX9_undo 62 = .ok (.imul, 1) := by decide +kernel
theorem dX9_undo_63 : decode cX9_undo 63 = .ok (.iload_n 1, 1) := by decide +kernel
theorem dX9_undo_64 : decode cX9_undo 64 = .ok (.iadd, 1) := by decide +kernel
theorem dX9_undo_65 : decode cX9_undo 65 = .ok (.iaload, 1) := by decide +kernel
theorem dX9_undo_66 : decode cX9_undo 66 = .ok (.iastore, 1) := by decide +kernel
theorem dX9_undo_67 : decode cX9_undo 67 = .ok (.iinc 1 1, 3) := by decide +kernel
theorem dX9_undo_70 : decode cX9_undo 70 = .ok (.goto (-31), 3) := by decide +kernel
theorem dX9_undo_73 : decode cX9_undo 73 = .ok (.aload_n 0, 1) := by decide +kernel
theorem dX9_undo_74 : decode cX9_undo 74 = .ok (.iconst 0, 1) := by decide +kernel
theorem dX9_undo_75 : decode cX9_undo 75 = .ok (.invokevirtual 222, 3) := by decide +kernel
theorem dX9_undo_78 : decode cX9_undo 78 = .ok (.pop, 1) := by decide +kernel
theorem dX9_undo_79 : decode cX9_undo 79 = .ok (.iconst 1, 1) := by decide +kernel
theorem dX9_undo_80 : decode cX9_undo 80 = .ok (.ireturn, 1) := by decide +kernel
theorem dX9_onDisk_0 : decode cX9_onDisk 0 = .ok (.aload_n 0, 1) := by decide +kernel
theorem dX9_onDisk_1 : decode cX9_onDisk 1 = .ok (.iconst 0, 1) := by decide +kernel
theorem dX9_onDisk_2 : decode cX9_onDisk 2 = .ok (.putfield 75, 3) := by decide +kernel
theorem dX9_onDisk_5 : decode cX9_onDisk 5 = .ok (.iconst 0, 1) := by decide +kernel
theorem dX9_onDisk_6 : decode cX9_onDisk 6 = .ok (.istore_n 2, 1) := by decide +kernel
theorem dX9_onDisk_7 : decode cX9_onDisk 7 = .ok (.iconst 0, 1) := by decide +kernel
theorem dX9_onDisk_8 : decode cX9_onDisk 8 = .ok (.istore_n 3, 1) := by decide +kernel
theorem dX9_onDisk_9 : decode cX9_onDisk 9 = .ok (.aload_n 0, 1) := by decide +kernel
theorem dX9_onDisk_10 : decode cX9_onDisk 10 = .ok (.getfield 225, 3) := by decide +kernel
theorem dX9_onDisk_13 : decode cX9_onDisk 13 = .ok (.ifCond .eq 37, 3) := by decide +kernel
theorem dX9_onDisk_16 : decode cX9_onDisk 16 = .ok (.iload_n 3, 1) := by decide +kernel
theorem dX9_onDisk_17 : decode cX9_onDisk 17 = .ok (.bipush 30, 2) := by decide +kernel
theorem dX9_onDisk_19 : decode cX9_onDisk 19 = .ok (.if_icmp .ge 31, 3) := by decide +kernel
theorem dX9_onDisk_22 : decode cX9_onDisk 22 = .ok (.aload_n 0, 1) := by decide +kernel
theorem dX9_onDisk_23 : decode cX9_onDisk 23 = .ok (.iload_n 3, 1) := by decide +kernel
theorem dX9_onDisk_24 : decode cX9_onDisk 24 = .ok (.invokevirtual 325, 3) := by decide +kernel
theorem dX9_onDisk_27 : decode cX9_onDisk 27 = .ok (.iconst 3, 1) := by decide +kernel
theorem dX9_onDisk_28 : decode cX9_onDisk 28 = .ok (.if_icmp .eq 6, 3) := by decide +kernel
theorem dX9_onDisk_31 : decode cX9_onDisk 31 = .ok (.goto 13, 3) := by decide +kernel
theorem dX9_onDisk_34 : decode cX9_onDisk 34 = .ok (.iload_n 2, 1) := by decide +kernel
theorem dX9_onDisk_35 : decode cX9_onDisk 35 = .ok (.iload_n 1, 1) := by decide +kernel
theorem dX9_onDisk_36 : decode cX9_onDisk 36 = .ok (.if_icmp .ne 5, 3) := by decide +kernel
theorem dX9_onDisk_39 : decode cX9_onDisk 39 = .ok (.iload_n 3, 1) := by decide +kernel
theorem dX9_onDisk_40 : decode cX9_onDisk 40 = .ok (.ireturn, 1) := by decide +kernel
theorem dX9_onDisk_41 : decode cX9_onDisk 41 = .ok (.iinc 2 1, 3) := by decide +kernel
theorem dX9_onDisk_44 : decode cX9_onDisk 44 = .ok (.iinc 3 1, 3) := by decide +kernel
theorem dX9_onDisk_47 : decode cX9_onDisk 47 = .ok (.goto (-38), 3) := by decide +kernel
theorem dX9_onDisk_50 : decode cX9_onDisk 50 = .ok (.aload_n 0, 1) := by decide +kernel
theorem dX9_onDisk_51 : decode cX9_onDisk 51 = .ok (.iconst 1, 1) := by decide +kernel
theorem dX9_onDisk_52 : decode cX9_onDisk 52 = .ok (.putfield 75, 3) := by decide +kernel
theorem dX9_onDisk_55 : decode cX9_onDisk 55 = .ok (.iconst 0, 1) := by decide +kernel
theorem dX9_onDisk_56 : decode cX9_onDisk 56 = .ok (.ireturn, 1) := by decide +kernel
theorem dX9_size_0 : decode cX9_size 0 = .ok (.aload_n 0, 1) := by decide +kernel
theorem dX9_size_1 : decode cX9_size 1 = .ok (.iconst 0, 1) := by decide +kernel
theorem dX9_size_2 : decode cX9_size 2 = .ok (.putfield 75, 3) := by decide +kernel
theorem dX9_size_5 : decode cX9_size 5 = .ok (.iload_n 1, 1) := by decide +kernel
theorem dX9_size_6 : decode cX9_size 6 = .ok (.ifCond .ne 10, 3) := by decide +kernel
theorem dX9_size_9 : decode cX9_size 9 = .ok (.aload_n 0, 1) := by decide +kernel
theorem dX9_size_10 : decode cX9_size 10 = .ok (.getfield 207, 3) := by decide +kernel
theorem dX9_size_13 : decode cX9_size 13 = .ok (.goto 16, 3) := by decide +kernel
theorem dX9_size_16 : decode cX9_size 16 = .ok (.iload_n 1, 1) := by decide +kernel
theorem dX9_size_17 : decode cX9_size 17 = .ok (.iconst 1, 1) := by decide +kernel
theorem dX9_size_18 : decode cX9_size 18 = .ok (.if_icmp .ne 10, 3) := by decide +kernel
theorem dX9_size_21 : decode cX9_size 21 = .ok (.aload_n 0, 1) := by decide +kernel
theorem dX9_size_22 : decode cX9_size 22 = .ok (.getfield 239, 3) := by decide +kernel
theorem dX9_size_25 : decode cX9_size 25 = .ok (.goto 4, 3) := by decide +kernel
theorem dX9_size_28 : decode cX9_size 28 = .ok (.iconst (-1), 1) := by decide +kernel
theorem dX9_size_29 : decode cX9_size 29 = .ok (.ireturn, 1) := by decide +kernel
theorem dX9_trouble_0 : decode cX9_trouble 0 = .ok (.aload_n 0, 1) := by decide +kernel
theorem dX9_trouble_1 : decode cX9_trouble 1 = .ok (.iconst 0, 1) := by decide +kernel
theorem dX9_trouble_2 : decode cX9_trouble 2 = .ok (.putfield 75, 3) := by decide +kernel
theorem dX9_trouble_5 : decode cX9_trouble 5 = .ok (.aload_n 0, 1) := by decide +kernel
theorem dX9_trouble_6 : decode cX9_trouble 6 = .ok (.getfield 78, 3) := by decide +kernel
theorem dX9_trouble_9 : decode cX9_trouble 9 = .ok (.ireturn, 1) := by decide +kernel
